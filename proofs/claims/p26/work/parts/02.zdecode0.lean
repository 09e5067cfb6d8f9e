theorem dX0_init_0 : decode cX0_init 0 = .ok (.aload_n 0, 1) := by decide +kernel
theorem dX0_init_1 : decode cX0_init 1 = .ok (.invokespecial 1, 3) := by decide +kernel
theorem dX0_init_4 : decode cX0_init 4 = .ok (.aload_n 0, 1) := by decide +kernel
theorem dX0_init_5 : decode cX0_init 5 = .ok (.bipush 48, 2) := by decide +kernel
theorem dX0_init_7 : decode cX0_init 7 = .ok (.newarray .int, 2) := by decide +kernel
theorem dX0_init_9 : decode cX0_init 9 = .ok (.putfield 9, 3) := by decide +kernel
theorem dX0_init_12 : decode cX0_init 12 = .ok (.aload_n 0, 1) := by decide +kernel
theorem dX0_init_13 : decode cX0_init 13 = .ok (.bipush 12, 2) := by decide +kernel
theorem dX0_init_15 : decode cX0_init 15 = .ok (.newarray .int, 2) := by decide +kernel
theorem dX0_init_17 : decode cX0_init 17 = .ok (.putfield 13, 3) := by decide +kernel
theorem dX0_init_20 : decode cX0_init 20 = .ok (.aload_n 0, 1) := by decide +kernel
theorem dX0_init_21 : decode cX0_init 21 = .ok (.bipush 12, 2) := by decide +kernel
theorem dX0_init_23 : decode cX0_init 23 = .ok (.newarray .int, 2) := by decide +kernel
theorem dX0_init_25 : decode cX0_init 25 = .ok (.putfield 16, 3) := by decide +kernel
theorem dX0_init_28 : decode cX0_init 28 = .ok (.aload_n 0, 1) := by decide +kernel
theorem dX0_init_29 : decode cX0_init 29 = .ok (.iconst 4, 1) := by decide +kernel
theorem dX0_init_30 : decode cX0_init 30 = .ok (.newarray .int, 2) := by decide +kernel
theorem dX0_init_32 : decode cX0_init 32 = .ok (.putfield 19, 3) := by decide +kernel
theorem dX0_init_35 : decode cX0_init 35 = .ok (.aload_n 0, 1) := by decide +kernel
theorem dX0_init_36 : decode cX0_init 36 = .ok (.sipush 160, 3) := by decide +kernel
theorem dX0_init_39 : decode cX0_init 39 = .ok (.newarray .int, 2) := by decide +kernel
theorem dX0_init_41 : decode cX0_init 41 = .ok (.putfield 22, 3) := by decide +kernel
theorem dX0_init_44 : decode cX0_init 44 = .ok (.aload_n 0, 1) := by decide +kernel
theorem dX0_init_45 : decode cX0_init 45 = .ok (.iconst 1, 1) := by decide +kernel
theorem dX0_init_46 : decode cX0_init 46 = .ok (.putfield 25, 3) := by decide +kernel
theorem dX0_init_49 : decode cX0_init 49 = .ok (.aload_n 0, 1) := by decide +kernel
theorem dX0_init_50 : decode cX0_init 50 = .ok (.getfield 19, 3) := by decide +kernel
theorem dX0_init_53 : decode cX0_init 53 = .ok (.iconst 0, 1) := by decide +kernel
theorem dX0_init_54 : decode cX0_init 54 = .ok (.iconst 2, 1) := by decide +kernel
theorem dX0_init_55 : decode cX0_init 55 = .ok (.iastore, 1) := by decide +kernel
theorem dX0_init_56 : decode cX0_init 56 = .ok (.aload_n 0, 1) := by decide +kernel
theorem dX0_init_57 : decode cX0_init 57 = .ok (.getfield 19, 3) := by decide +kernel
theorem dX0_init_60 : decode cX0_init 60 = .ok (.iconst 1, 1) := by decide +kernel
theorem dX0_init_61 : decode cX0_init 61 = .ok (.bipush 8, 2) := by decide +kernel
theorem dX0_init_63 : decode cX0_init 63 = .ok (.iastore, 1) := by decide +kernel
theorem dX0_init_64 : decode cX0_init 64 = .ok (.iconst 0, 1) := by decide +kernel
theorem dX0_init_65 : decode cX0_init 65 = .ok (.istore_n 1, 1) := by decide +kernel
theorem dX0_init_66 : decode cX0_init 66 = .ok (.iload_n 1, 1) := by decide +kernel
theorem dX0_init_67 : decode cX0_init 67 = .ok (.aload_n 0, 1) := by decide +kernel
theorem dX0_init_68 : decode cX0_init 68 = .ok (.getfield 16, 3) := by decide +kernel
theorem dX0_init_71 : decode cX0_init 71 = .ok (.arraylength, 1) := by decide +kernel
theorem dX0_init_72 : decode cX0_init 72 = .ok (.if_icmp .ge 31, 3) := by decide +kernel
theorem dX0_init_75 : decode cX0_init 75 = .ok (.aload_n 0, 1) := by decide +kernel
theorem dX0_init_76 : decode cX0_init 76 = .ok (.getfield 16, 3) := by decide +kernel
theorem dX0_init_79 : decode cX0_init 79 = .ok (.iload_n 1, 1) := by decide +kernel
theorem dX0_init_80 : decode cX0_init 80 = .ok (.iload_n 1, 1) := by decide +kernel
theorem dX0_init_81 : decode cX0_init 81 = .ok (.ifCond .eq 9, 3) := by decide +kernel
theorem dX0_init_84 : decode cX0_init 84 = .ok (.iload_n 1, 1) := by decide +kernel
theorem dX0_init_85 : decode cX0_init 85 = .ok (.bipush 6, 2) := by decide +kernel
theorem dX0_init_87 : decode cX0_init 87 = .ok (.if_icmp .ne 8, 3) := by decide +kernel
theorem dX0_init_90 : decode cX0_init 90 = .ok (.bipush 10, 2) := by decide +kernel
theorem dX0_init_92 : decode cX0_init 92 = .ok (.goto 4, 3) := by decide +kernel
theorem dX0_init_95 : decode cX0_init 95 = .ok (.iconst 2, 1) := by decide +kernel
theorem dX0_init_96 : decode cX0_init 96 = .ok (.iastore, 1) := by decide +kernel
theorem dX0_init_97 : decode cX0_init 97 = .ok (.iinc 1 1, 3) := by decide +kernel
theorem dX0_init_100 : decode cX0_init 100 = .ok (.goto (-34), 3) := by decide +kernel
theorem dX0_init_103 : decode cX0_init 103 = .ok (.return_, 1) := by decide +kernel
theorem dX0_copyFrom_0 : decode cX0_copyFrom 0 = .ok (.aload_n 1, 1) := by decide +kernel
theorem dX0_copyFrom_1 : decode cX0_copyFrom 1 = .ok (.ifnonnull 4, 3) := by decide +kernel
theorem dX0_copyFrom_4 : decode cX0_copyFrom 4 = .ok (.return_, 1) := by decide +kernel
theorem dX0_copyFrom_5 : decode cX0_copyFrom 5 = .ok (.aload_n 1, 1) := by decide +kernel
theorem dX0_copyFrom_6 : decode cX0_copyFrom 6 = .ok (.getfield 9, 3) := by decide +kernel
theorem dX0_copyFrom_9 : decode cX0_copyFrom 9 = .ok (.iconst 0, 1) := by decide +kernel
theorem dX0_copyFrom_10 : decode cX0_copyFrom 10 = .ok (.aload_n 0, 1) := by decide +kernel
theorem dX0_copyFrom_11 : decode cX0_copyFrom 11 = .ok (.getfield 9, 3) := by decide +kernel
theorem dX0_copyFrom_14 : decode cX0_copyFrom 14 = .ok (.iconst 0, 1) := by decide +kernel
theorem dX0_copyFrom_15 : decode cX0_copyFrom 15 = .ok (.bipush 48, 2) := by decide +kernel
theorem dX0_copyFrom_17 : decode cX0_copyFrom 17 = .ok (.invokestatic 29, 3) := by decide +kernel
theorem dX0_copyFrom_20 : decode cX0_copyFrom 20 = .ok (.aload_n 1, 1) := by decide +kernel
theorem dX0_copyFrom_21 : decode cX0_copyFrom 21 = .ok (.getfield 13, 3) := by decide +kernel
theorem dX0_copyFrom_24 : decode cX0_copyFrom 24 = .ok (.iconst 0, 1) := by decide +kernel
theorem dX0_copyFrom_25 : decode cX0_copyFrom 25 = .ok (.aload_n 0, 1) := by decide +kernel
theorem dX0_copyFrom_26 : decode cX0_copyFrom 26 = .ok (.getfield 13, 3) := by decide +kernel
theorem dX0_copyFrom_29 : decode cX0_copyFrom 29 = .ok (.iconst 0, 1) := by decide +kernel
theorem dX0_copyFrom_30 : decode cX0_copyFrom 30 = .ok (.bipush 12, 2) := by decide +kernel
theorem dX0_copyFrom_32 : decode cX0_copyFrom 32 = .ok (.invokestatic 29, 3) := by decide +kernel
theorem dX0_copyFrom_35 : decode cX0_copyFrom 35 = .ok (.aload_n 1, 1) := by decide +kernel
theorem dX0_copyFrom_36 : decode cX0_copyFrom 36 = .ok (.getfield 16, 3) := by decide +kernel
theorem dX0_copyFrom_39 : decode cX0_copyFrom 39 = .ok (.iconst 0, 1) := by decide +kernel
theorem dX0_copyFrom_40 : decode cX0_copyFrom 40 = .ok (.aload_n 0, 1) := by decide +kernel
theorem dX0_copyFrom_41 : decode cX0_copyFrom 41 = .ok (.getfield 16, 3) := by decide +kernel
theorem dX0_copyFrom_44 : decode cX0_copyFrom 44 = .ok (.iconst 0, 1) := by decide +kernel
theorem dX0_copyFrom_45 : decode cX0_copyFrom 45 = .ok (.bipush 12, 2) := by decide +kernel
theorem dX0_copyFrom_47 : decode cX0_copyFrom 47 = .ok (.invokestatic 29, 3) := by decide +kernel
theorem dX0_copyFrom_50 : decode cX0_copyFrom 50 = .ok (.aload_n 1, 1) := by decide +kernel
theorem dX0_copyFrom_51 : decode cX0_copyFrom 51 = .ok (.getfield 19, 3) := by decide +kernel
theorem dX0_copyFrom_54 : decode cX0_copyFrom 54 = .ok (.iconst 0, 1) := by decide +kernel
theorem dX0_copyFrom_55 : decode cX0_copyFrom 55 = .ok (.aload_n 0, 1) := by decide +kernel
theorem dX0_copyFrom_56 : decode cX0_copyFrom 56 = .ok (.getfield 19, 3) := by decide +kernel
theorem dX0_copyFrom_59 : decode cX0_copyFrom 59 = .ok (.iconst 0, 1) := by decide +kernel
theorem dX0_copyFrom_60 : decode cX0_copyFrom 60 = .ok (.iconst 4, 1) := by decide +kernel
theorem dX0_copyFrom_61 : decode cX0_copyFrom 61 = .ok (.invokestatic 29, 3) := by decide +kernel
theorem dX0_copyFrom_64 : decode cX0_copyFrom 64 = .ok (.aload_n 1, 1) := by decide +kernel
theorem dX0_copyFrom_65 : decode cX0_copyFrom 65 = .ok (.getfield 22, 3) := by decide +kernel
theorem dX0_copyFrom_68 : decode cX0_copyFrom 68 = .ok (.iconst 0, 1) := by decide +kernel
theorem dX0_copyFrom_69 : decode cX0_copyFrom 69 = .ok (.aload_n 0, 1) := by decide +kernel
theorem dX0_copyFrom_70 : decode cX0_copyFrom 70 = .ok (.getfield 22, 3) := by decide +kernel
theorem dX0_copyFrom_73 : decode cX0_copyFrom 73 = .ok (.iconst 0, 1) := by decide +kernel
theorem dX0_copyFrom_74 : decode cX0_copyFrom 74 = .ok (.sipush 160, 3) := by decide +kernel
theorem dX0_copyFrom_77 : decode cX0_copyFrom 77 = .ok (.invokestatic 29, 3) := by decide +kernel
theorem dX0_copyFrom_80 : decode cX0_copyFrom 80 = .ok (.aload_n 0, 1) := by decide +kernel
theorem dX0_copyFrom_81 : decode cX0_copyFrom 81 = .ok (.aload_n 1, 1) := by decide +kernel
theorem dX0_copyFrom_82 : decode cX0_copyFrom 82 = .ok (.getfield 35, 3) := by decide +kernel
theorem dX0_copyFrom_85 : decode cX0_copyFrom 85 = .ok (.putfield 35, 3) := by decide +kernel
theorem dX0_copyFrom_88 : decode cX0_copyFrom 88 = .ok (.aload_n 0, 1) := by decide +kernel
theorem dX0_copyFrom_89 : decode cX0_copyFrom 89 = .ok (.aload_n 1, 1) := by decide +kernel
theorem dX0_copyFrom_90 : decode cX0_copyFrom 90 = .ok (.getfield 25, 3) := by decide +kernel
theorem dX0_copyFrom_93 : decode cX0_copyFrom 93 = .ok (.putfield 25, 3) := by decide +kernel
theorem dX0_copyFrom_96 : decode cX0_copyFrom 96 = .ok (.aload_n 0, 1) := by decide +kernel
theorem dX0_copyFrom_97 : decode cX0_copyFrom 97 = .ok (.aload_n 1, 1) := by decide +kernel
theorem dX0_copyFrom_98 : decode cX0_copyFrom 98 = .ok (.getfield 38, 3) := by decide +kernel
theorem dX0_copyFrom_101 : decode cX0_copyFrom 101 = .ok (.putfield 38, 3) := by decide +kernel
theorem dX0_copyFrom_104 : decode cX0_copyFrom 104 = .ok (.aload_n 0, 1) := by decide +kernel
theorem dX0_copyFrom_105 : decode cX0_copyFrom 105 = .ok (.aload_n 1, 1) := by decide +kernel
theorem dX0_copyFrom_106 : decode cX0_copyFrom 106 = .ok (.getfield 41, 3) := by decide +kernel
theorem dX0_copyFrom_109 : decode cX0_copyFrom 109 = .ok (.putfield 41, 3) := by decide +kernel
theorem dX0_copyFrom_112 : decode cX0_copyFrom 112 = .ok (.aload_n 0, 1) := by decide +kernel
theorem dX0_copyFrom_113 : decode cX0_copyFrom 113 = .ok (.aload_n 1, 1) := by decide +kernel
theorem dX0_copyFrom_114 : decode cX0_copyFrom 114 = .ok (.getfield 44, 3) := by decide +kernel
theorem dX0_copyFrom_117 : decode cX0_copyFrom 117 = .ok (.putfield 44, 3) := by decide +kernel
theorem dX0_copyFrom_120 : decode cX0_copyFrom 120 = .ok (.aload_n 0, 1) := by decide +kernel
theorem dX0_copyFrom_121 : decode cX0_copyFrom 121 = .ok (.aload_n 1, 1) := by decide +kernel
theorem dX0_copyFrom_122 : decode cX0_copyFrom 122 = .ok (.getfield 47, 3) := by decide +kernel
theorem dX0_copyFrom_125 : decode cX0_copyFrom 125 = .ok (.putfield 47, 3) := by decide +kernel
theorem dX0_copyFrom_128 : decode cX0_copyFrom 128 = .ok (.aload_n 0, 1) := by decide +kernel
theorem dX0_copyFrom_129 : decode cX0_copyFrom 129 = .ok (.aload_n 1, 1) := by decide +kernel
theorem dX0_copyFrom_130 : decode cX0_copyFrom 130 = .ok (.getfield 50, 3) := by decide +kernel
theorem dX0_copyFrom_133 : decode cX0_copyFrom 133 = .ok (.putfield 50, 3) := by decide +kernel
theorem dX0_copyFrom_136 : decode cX0_copyFrom 136 = .ok (.return_, 1) := by decide +kernel
theorem dX0_empty_0 : decode cX0_empty 0 = .ok (.iconst 0, 1) := by decide +kernel
theorem dX0_empty_1 : decode cX0_empty 1 = .ok (.istore_n 1, 1) := by decide +kernel
theorem dX0_empty_2 : decode cX0_empty 2 = .ok (.iload_n 1, 1) := by decide +kernel
theorem dX0_empty_3 : decode cX0_empty 3 = .ok (.aload_n 0, 1) := by decide +kernel
theorem dX0_empty_4 : decode cX0_empty 4 = .ok (.getfield 13, 3) := by decide +kernel
theorem dX0_empty_7 : decode cX0_empty 7 = .ok (.arraylength, 1) := by decide +kernel
theorem dX0_empty_8 : decode cX0_empty 8 = .ok (.if_icmp .ge 16, 3) := by decide +kernel
theorem dX0_empty_11 : decode cX0_empty 11 = .ok (.aload_n 0, 1) := by decide +kernel
theorem dX0_empty_12 : decode cX0_empty 12 = .ok (.getfield 13, 3) := by decide +kernel
theorem dX0_empty_15 : decode cX0_empty 15 = .ok (.iload_n 1, 1) := by decide +kernel
theorem dX0_empty_16 : decode cX0_empty 16 = .ok (.iconst 0, 1) := by decide +kernel
theorem dX0_empty_17 : decode cX0_empty 17 = .ok (.iastore, 1) := by decide +kernel
theorem dX0_empty_18 : decode cX0_empty 18 = .ok (.iinc 1 1, 3) := by decide +kernel
theorem dX0_empty_21 : decode cX0_empty 21 = .ok (.goto (-19), 3) := by decide +kernel
theorem dX0_empty_24 : decode cX0_empty 24 = .ok (.aload_n 0, 1) := by decide +kernel
theorem dX0_empty_25 : decode cX0_empty 25 = .ok (.iconst 0, 1) := by decide +kernel
theorem dX0_empty_26 : decode cX0_empty 26 = .ok (.putfield 35, 3) := by decide +kernel
theorem dX0_empty_29 : decode cX0_empty 29 = .ok (.aload_n 0, 1) := by decide +kernel
theorem dX0_empty_30 : decode cX0_empty 30 = .ok (.iconst 1, 1) := by decide +kernel
theorem dX0_empty_31 : decode cX0_empty 31 = .ok (.putfield 25, 3) := by decide +kernel
theorem dX0_empty_34 : decode cX0_empty 34 = .ok (.aload_n 0, 1) := by decide +kernel
theorem dX0_empty_35 : decode cX0_empty 35 = .ok (.iconst 0, 1) := by decide +kernel
theorem dX0_empty_36 : decode cX0_empty 36 = .ok (.putfield 38, 3) := by decide +kernel
theorem dX0_empty_39 : decode cX0_empty 39 = .ok (.aload_n 0, 1) := by decide +kernel
theorem dX0_empty_40 : decode cX0_empty 40 = .ok (.iconst 0, 1) := by decide +kernel
theorem dX0_empty_41 : decode cX0_empty 41 = .ok (.putfield 41, 3) := by decide +kernel
theorem dX0_empty_44 : decode cX0_empty 44 = .ok (.aload_n 0, 1) := by decide +kernel
theorem dX0_empty_45 : decode cX0_empty 45 = .ok (.iconst 0, 1) := by decide +kernel
theorem dX0_empty_46 : decode cX0_empty 46 = .ok (.putfield 44, 3) := by decide +kernel
theorem dX0_empty_49 : decode cX0_empty 49 = .ok (.aload_n 0, 1) := by decide +kernel
theorem dX0_empty_50 : decode cX0_empty 50 = .ok (.iconst 0, 1) := by decide +kernel
theorem dX0_empty_51 : decode cX0_empty 51 = .ok (.putfield 47, 3) := by decide +kernel
theorem dX0_empty_54 : decode cX0_empty 54 = .ok (.aload_n 0, 1) := by decide +kernel
theorem dX0_empty_55 : decode cX0_empty 55 = .ok (.iconst 0, 1) := by decide +kernel
theorem dX0_empty_56 : decode cX0_empty 56 = .ok (.putfield 50, 3) := by decide +kernel
theorem dX0_empty_59 : decode cX0_empty 59 = .ok (.return_, 1) := by decide +kernel
theorem dX0_isPlace_0 : decode cX0_isPlace 0 = .ok (.iload_n 0, 1) := by decide +kernel
theorem dX0_isPlace_1 : decode cX0_isPlace 1 = .ok (.bipush (-6), 2) := by decide +kernel
theorem dX0_isPlace_3 : decode cX0_isPlace 3 = .ok (.if_icmp .lt 17, 3) := by decide +kernel
theorem dX0_isPlace_6 : decode cX0_isPlace 6 = .ok (.iload_n 0, 1) := by decide +kernel
theorem dX0_isPlace_7 : decode cX0_isPlace 7 = .ok (.bipush 6, 2) := by decide +kernel
theorem dX0_isPlace_9 : decode cX0_isPlace 9 = .ok (.if_icmp .gt 11, 3) := by decide +kernel
theorem dX0_isPlace_12 : decode cX0_isPlace 12 = .ok (.iload_n 0, 1) := by decide +kernel
theorem dX0_isPlace_13 : decode cX0_isPlace 13 = .ok (.ifCond .eq 7, 3) := by decide +kernel
theorem dX0_isPlace_16 : decode cX0_isPlace 16 = .ok (.iconst 1, 1) := by decide +kernel
theorem dX0_isPlace_17 : decode cX0_isPlace 17 = .ok (.goto 4, 3) := by decide +kernel
theorem dX0_isPlace_20 : decode cX0_isPlace 20 = .ok (.iconst 0, 1) := by decide +kernel
theorem dX0_isPlace_21 : decode cX0_isPlace 21 = .ok (.ireturn, 1) := by decide +kernel
theorem dX0_isWeight_0 : decode cX0_isWeight 0 = .ok (.iload_n 0, 1) := by decide +kernel
theorem dX0_isWeight_1 : decode cX0_isWeight 1 = .ok (.iconst 1, 1) := by decide +kernel
theorem dX0_isWeight_2 : decode cX0_isWeight 2 = .ok (.if_icmp .lt 12, 3) := by decide +kernel
theorem dX0_isWeight_5 : decode cX0_isWeight 5 = .ok (.iload_n 0, 1) := by decide +kernel
theorem dX0_isWeight_6 : decode cX0_isWeight 6 = .ok (.iconst 5, 1) := by decide +kernel
theorem dX0_isWeight_7 : decode cX0_isWeight 7 = .ok (.if_icmp .gt 7, 3) := by decide +kernel
theorem dX0_isWeight_10 : decode cX0_isWeight 10 = .ok (.iconst 1, 1) := by decide +kernel
theorem dX0_isWeight_11 : decode cX0_isWeight 11 = .ok (.goto 4, 3) := by decide +kernel
theorem dX0_isWeight_14 : decode cX0_isWeight 14 = .ok (.iconst 0, 1) := by decide +kernel
theorem dX0_isWeight_15 : decode cX0_isWeight 15 = .ok (.ireturn, 1) := by decide +kernel
theorem dX0_isSide_0 : decode cX0_isSide 0 = .ok (.iload_n 0, 1) := by decide +kernel
theorem dX0_isSide_1 : decode cX0_isSide 1 = .ok (.ifCond .eq 8, 3) := by decide +kernel
theorem dX0_isSide_4 : decode cX0_isSide 4 = .ok (.iload_n 0, 1) := by decide +kernel
theorem dX0_isSide_5 : decode cX0_isSide 5 = .ok (.iconst 1, 1) := by decide +kernel
theorem dX0_isSide_6 : decode cX0_isSide 6 = .ok (.if_icmp .ne 7, 3) := by decide +kernel
theorem dX0_isSide_9 : decode cX0_isSide 9 = .ok (.iconst 1, 1) := by decide +kernel
theorem dX0_isSide_10 : decode cX0_isSide 10 = .ok (.goto 4, 3) := by decide +kernel
theorem dX0_isSide_13 : decode cX0_isSide 13 = .ok (.iconst 0, 1) := by decide +kernel
theorem dX0_isSide_14 : decode cX0_isSide 14 = .ok (.ireturn, 1) := by decide +kernel
theorem dX0_isSetting_0 : decode cX0_isSetting 0 = .ok (.iload_n 0, 1) := by decide +kernel
theorem dX0_isSetting_1 : decode cX0_isSetting 1 = .ok (.ifCond .lt 12, 3) := by decide +kernel
theorem dX0_isSetting_4 : decode cX0_isSetting 4 = .ok (.iload_n 0, 1) := by decide +kernel
theorem dX0_isSetting_5 : decode cX0_isSetting 5 = .ok (.iconst 4, 1) := by decide +kernel
theorem dX0_isSetting_6 : decode cX0_isSetting 6 = .ok (.if_icmp .ge 7, 3) := by decide +kernel
theorem dX0_isSetting_9 : decode cX0_isSetting 9 = .ok (.iconst 1, 1) := by decide +kernel
theorem dX0_isSetting_10 : decode cX0_isSetting 10 = .ok (.goto 4, 3) := by decide +kernel
theorem dX0_isSetting_13 : decode cX0_isSetting 13 = .ok (.iconst 0, 1) := by decide +kernel
theorem dX0_isSetting_14 : decode cX0_isSetting 14 = .ok (.ireturn, 1) := by decide +kernel
theorem dX0_leastOfSetting_0 : decode cX0_leastOfSetting 0 = .ok (.iload_n 0, 1) := by decide +kernel
theorem dX0_leastOfSetting_1 : decode cX0_leastOfSetting 1 = .ok (.ifCond .ne 7, 3) := by decide +kernel
theorem dX0_leastOfSetting_4 : decode cX0_leastOfSetting 4 = .ok (.iconst 1, 1) := by decide +kernel
theorem dX0_leastOfSetting_5 : decode cX0_leastOfSetting 5 = .ok (.goto 4, 3) := by decide +kernel
theorem dX0_leastOfSetting_8 : decode cX0_leastOfSetting 8 = .ok (.iconst 0, 1) := by decide +kernel
theorem dX0_leastOfSetting_9 : decode cX0_leastOfSetting 9 = .ok (.ireturn, 1) := by decide +kernel
theorem dX0_mostOfSetting_0 : decode cX0_mostOfSetting 0 = .ok (.iload_n 0, 1) := by decide +kernel
theorem dX0_mostOfSetting_1 : decode cX0_mostOfSetting 1 = .ok (.lookupswitch 32 #[(0, 27), (1, 29)], 27) := by decide +kernel
theorem dX0_mostOfSetting_28 : decode cX0_mostOfSetting 28 = .ok (.iconst 4, 1) := by decide +kernel
theorem dX0_mostOfSetting_29 : decode cX0_mostOfSetting 29 = .ok (.ireturn, 1) := by decide +kernel
theorem dX0_mostOfSetting_30 : decode cX0_mostOfSetting 30 = .ok (.bipush 40, 2) := by decide +kernel
theorem dX0_mostOfSetting_32 : decode cX0_mostOfSetting 32 = .ok (.ireturn, 1) := by decide +kernel
theorem dX0_mostOfSetting_33 : decode cX0_mostOfSetting 33 = .ok (.iconst 1, 1) := by decide +kernel
theorem dX0_mostOfSetting_34 : decode cX0_mostOfSetting 34 = .ok (.ireturn, 1) := by decide +kernel
theorem dX0_numberOf_0 : decode cX0_numberOf 0 = .ok (.iload_n 0, 1) := by decide +kernel
theorem dX0_numberOf_1 : decode cX0_numberOf 1 = .ok (.bipush 60, 2) := by decide +kernel
theorem dX0_numberOf_3 : decode cX0_numberOf 3 = .ok (.if_icmp .ge 10, 3) := by decide +kernel
theorem dX0_numberOf_6 : decode cX0_numberOf 6 = .ok (.iconst 1, 1) := by decide +kernel
theorem dX0_numberOf_7 : decode cX0_numberOf 7 = .ok (.iload_n 0, 1) := by decide +kernel
theorem dX0_numberOf_8 : decode cX0_numberOf 8 = .ok (.bipush 12, 2) := by decide +kernel
theorem dX0_numberOf_10 : decode cX0_numberOf 10 = .ok (.idiv, 1) := by decide +kernel
theorem dX0_numberOf_11 : decode cX0_numberOf 11 = .ok (.iadd, 1) := by decide +kernel
theorem dX0_numberOf_12 : decode cX0_numberOf 12 = .ok (.ireturn, 1) := by decide +kernel
theorem dX0_numberOf_13 : decode cX0_numberOf 13 = .ok (.iload_n 0, 1) := by decide +kernel
theorem dX0_numberOf_14 : decode cX0_numberOf 14 = .ok (.bipush 60, 2) := by decide +kernel
theorem dX0_numberOf_16 : decode cX0_numberOf 16 = .ok (.isub, 1) := by decide +kernel
theorem dX0_numberOf_17 : decode cX0_numberOf 17 = .ok (.iconst 2, 1) := by decide +kernel
theorem dX0_numberOf_18 : decode cX0_numberOf 18 = .ok (.irem, 1) := by decide +kernel
theorem dX0_numberOf_19 : decode cX0_numberOf 19 = .ok (.ifCond .ne 8, 3) := by decide +kernel
theorem dX0_numberOf_22 : decode cX0_numberOf 22 = .ok (.bipush 6, 2) := by decide +kernel
theorem dX0_numberOf_24 : decode cX0_numberOf 24 = .ok (.goto 5, 3) := by decide +kernel
theorem dX0_numberOf_27 : decode cX0_numberOf 27 = .ok (.bipush 7, 2) := by decide +kernel
theorem dX0_numberOf_29 : decode cX0_numberOf 29 = .ok (.ireturn, 1) := by decide +kernel
theorem dX0_placeOf_0 : decode cX0_placeOf 0 = .ok (.iload_n 0, 1) := by decide +kernel
theorem dX0_placeOf_1 : decode cX0_placeOf 1 = .ok (.bipush 60, 2) := by decide +kernel
theorem dX0_placeOf_3 : decode cX0_placeOf 3 = .ok (.if_icmp .ge 10, 3) := by decide +kernel
theorem dX0_placeOf_6 : decode cX0_placeOf 6 = .ok (.iload_n 0, 1) := by decide +kernel
theorem dX0_placeOf_7 : decode cX0_placeOf 7 = .ok (.bipush 12, 2) := by decide +kernel
theorem dX0_placeOf_9 : decode cX0_placeOf 9 = .ok (.irem, 1) := by decide +kernel
theorem dX0_placeOf_10 : decode cX0_placeOf 10 = .ok (.goto 9, 3) := by decide +kernel
theorem dX0_placeOf_13 : decode cX0_placeOf 13 = .ok (.iload_n 0, 1) := by decide +kernel
theorem dX0_placeOf_14 : decode cX0_placeOf 14 = .ok (.bipush 60, 2) := by decide +kernel
theorem dX0_placeOf_16 : decode cX0_placeOf 16 = .ok (.isub, 1) := by decide +kernel
theorem dX0_placeOf_17 : decode cX0_placeOf 17 = .ok (.iconst 2, 1) := by decide +kernel
theorem dX0_placeOf_18 : decode cX0_placeOf 18 = .ok (.idiv, 1) := by decide +kernel
theorem dX0_placeOf_19 : decode cX0_placeOf 19 = .ok (.istore_n 1, 1) := by decide +kernel
theorem dX0_placeOf_20 : decode cX0_placeOf 20 = .ok (.iload_n 1, 1) := by decide +kernel
theorem dX0_placeOf_21 : decode cX0_placeOf 21 = .ok (.bipush 6, 2) := by decide +kernel
theorem dX0_placeOf_23 : decode cX0_placeOf 23 = .ok (.if_icmp .ge 10, 3) := by decide +kernel
theorem dX0_placeOf_26 : decode cX0_placeOf 26 = .ok (.iload_n 1, 1) := by decide +kernel
theorem dX0_placeOf_27 : decode cX0_placeOf 27 = .ok (.bipush 6, 2) := by decide +kernel
theorem dX0_placeOf_29 : decode cX0_placeOf 29 = .ok (.isub, 1) := by decide +kernel
theorem dX0_placeOf_30 : decode cX0_placeOf 30 = .ok (.goto 9, 3) := by decide +kernel
theorem dX0_placeOf_33 : decode cX0_placeOf 33 = .ok (.iload_n 1, 1) := by decide +kernel
theorem dX0_placeOf_34 : decode cX0_placeOf 34 = .ok (.bipush 6, 2) := by decide +kernel
theorem dX0_placeOf_36 : decode cX0_placeOf 36 = .ok (.isub, 1) := by decide +kernel
theorem dX0_placeOf_37 : decode cX0_placeOf 37 = .ok (.iconst 1, 1) := by decide +kernel
theorem dX0_placeOf_38 : decode cX0_placeOf 38 = .ok (.iadd, 1) := by decide +kernel
theorem dX0_placeOf_39 : decode cX0_placeOf 39 = .ok (.ireturn, 1) := by decide +kernel
theorem dX0_slotOf_0 : decode cX0_slotOf 0 = .ok (.iload_n 0, 1) := by decide +kernel
theorem dX0_slotOf_1 : decode cX0_slotOf 1 = .ok (.ifCond .ge 10, 3) := by decide +kernel
theorem dX0_slotOf_4 : decode cX0_slotOf 4 = .ok (.iload_n 0, 1) := by decide +kernel
theorem dX0_slotOf_5 : decode cX0_slotOf 5 = .ok (.bipush 6, 2) := by decide +kernel
theorem dX0_slotOf_7 : decode cX0_slotOf 7 = .ok (.iadd, 1) := by decide +kernel
theorem dX0_slotOf_8 : decode cX0_slotOf 8 = .ok (.goto 9, 3) := by decide +kernel
theorem dX0_slotOf_11 : decode cX0_slotOf 11 = .ok (.iload_n 0, 1) := by decide +kernel
theorem dX0_slotOf_12 : decode cX0_slotOf 12 = .ok (.bipush 6, 2) := by decide +kernel
theorem dX0_slotOf_14 : decode cX0_slotOf 14 = .ok (.iadd, 1) := by decide +kernel
theorem dX0_slotOf_15 : decode cX0_slotOf 15 = .ok (.iconst 1, 1) := by decide +kernel
theorem dX0_slotOf_16 : decode cX0_slotOf 16 = .ok (.isub, 1) := by decide +kernel
theorem dX0_slotOf_17 : decode cX0_slotOf 17 = .ok (.ireturn, 1) := by decide +kernel
theorem dX0_heightAt_0 : decode cX0_heightAt 0 = .ok (.iload_n 1, 1) := by decide +kernel
theorem dX0_heightAt_1 : decode cX0_heightAt 1 = .ok (.invokestatic 53, 3) := by decide +kernel
theorem dX0_heightAt_4 : decode cX0_heightAt 4 = .ok (.ifCond .eq 15, 3) := by decide +kernel
theorem dX0_heightAt_7 : decode cX0_heightAt 7 = .ok (.aload_n 0, 1) := by decide +kernel
theorem dX0_heightAt_8 : decode cX0_heightAt 8 = .ok (.getfield 13, 3) := by decide +kernel
theorem dX0_heightAt_11 : decode cX0_heightAt 11 = .ok (.iload_n 1, 1) := by decide +kernel
theorem dX0_heightAt_12 : decode cX0_heightAt 12 = .ok (.invokestatic 57, 3) := by decide +kernel
theorem dX0_heightAt_15 : decode cX0_heightAt 15 = .ok (.iaload, 1) := by decide +kernel
theorem dX0_heightAt_16 : decode cX0_heightAt 16 = .ok (.goto 4, 3) := by decide +kernel
theorem dX0_heightAt_19 : decode cX0_heightAt 19 = .ok (.iconst 0, 1) := by decide +kernel
theorem dX0_heightAt_20 : decode cX0_heightAt 20 = .ok (.ireturn, 1) := by decide +kernel
theorem dX0_weightAt_0 : decode cX0_weightAt 0 = .ok (.iload_n 1, 1) := by decide +kernel
theorem dX0_weightAt_1 : decode cX0_weightAt 1 = .ok (.invokestatic 53, 3) := by decide +kernel
theorem dX0_weightAt_4 : decode cX0_weightAt 4 = .ok (.ifCond .eq 12, 3) := by decide +kernel
theorem dX0_weightAt_7 : decode cX0_weightAt 7 = .ok (.iload_n 2, 1) := by decide +kernel
theorem dX0_weightAt_8 : decode cX0_weightAt 8 = .ok (.ifCond .lt 8, 3) := by decide +kernel
theorem dX0_weightAt_11 : decode cX0_weightAt 11 = .ok (.iload_n 2, 1) := by decide +kernel
theorem dX0_weightAt_12 : decode cX0_weightAt 12 = .ok (.iconst 4, 1) := by decide +kernel
theorem dX0_weightAt_13 : decode cX0_weightAt 13 = .ok (.if_icmp .lt 5, 3) := by decide +kernel
theorem dX0_weightAt_16 : decode cX0_weightAt 16 = .ok (.iconst 0, 1) := by decide +kernel
theorem dX0_weightAt_17 : decode cX0_weightAt 17 = .ok (.ireturn, 1) := by decide +kernel
theorem dX0_weightAt_18 : decode cX0_weightAt 18 = .ok (.aload_n 0, 1) := by decide +kernel
theorem dX0_weightAt_19 : decode cX0_weightAt 19 = .ok (.getfield 9, 3) := by decide +kernel
theorem dX0_weightAt_22 : decode cX0_weightAt 22 = .ok (.iload_n 1, 1) := by decide +kernel
theorem dX0_weightAt_23 : decode cX0_weightAt 23 = .ok (.invokestatic 57, 3) := by decide +kernel
theorem dX0_weightAt_26 : decode cX0_weightAt 26 = .ok (.iconst 4, 1) := by decide +kernel
theorem dX0_weightAt_27 : decode cX0_weightAt 27 = .ok (.imul, 1) := by decide +kernel
theorem dX0_weightAt_28 : decode cX0_weightAt 28 = .ok (.iload_n 2, 1) := by decide +kernel
theorem dX0_weightAt_29 : decode cX0_weightAt 29 = .ok (.iadd, 1) := by decide +kernel
theorem dX0_weightAt_30 : decode cX0_weightAt 30 = .ok (.iaload, 1) := by decide +kernel
theorem dX0_weightAt_31 : decode cX0_weightAt 31 = .ok (.ireturn, 1) := by decide +kernel
theorem dX0_uppermostAt_0 : decode cX0_uppermostAt 0 = .ok (.aload_n 0, 1) := by decide +kernel
theorem dX0_uppermostAt_1 : decode cX0_uppermostAt 1 = .ok (.iload_n 1, 1) := by decide +kernel
theorem dX0_uppermostAt_2 : decode cX0_uppermostAt 2 = .ok (.aload_n 0, 1) := by decide +kernel
theorem dX0_uppermostAt_3 : decode cX0_uppermostAt 3 = .ok (.iload_n 1, 1) := by decide +kernel
theorem dX0_uppermostAt_4 : decode cX0_uppermostAt 4 = .ok (.invokevirtual 61, 3) := by decide +kernel
theorem dX0_uppermostAt_7 : decode cX0_uppermostAt 7 = .ok (.iconst 1, 1) := by decide +kernel
theorem dX0_uppermostAt_8 : decode cX0_uppermostAt 8 = .ok (.isub, 1) := by decide +kernel
theorem dX0_uppermostAt_9 : decode cX0_uppermostAt 9 = .ok (.invokevirtual 64, 3) := by decide +kernel
theorem dX0_uppermostAt_12 : decode cX0_uppermostAt 12 = .ok (.ireturn, 1) := by decide +kernel
theorem dX0_weightsAt_0 : decode cX0_weightsAt 0 = .ok (.iconst 0, 1) := by decide +kernel
theorem dX0_weightsAt_1 : decode cX0_weightsAt 1 = .ok (.istore_n 2, 1) := by decide +kernel
theorem dX0_weightsAt_2 : decode cX0_weightsAt 2 = .ok (.aload_n 0, 1) := by decide +kernel
theorem dX0_weightsAt_3 : decode cX0_weightsAt 3 = .ok (.iload_n 1, 1) := by decide +kernel
theorem dX0_weightsAt_4 : decode cX0_weightsAt 4 = .ok (.invokevirtual 61, 3) := by decide +kernel
theorem dX0_weightsAt_7 : decode cX0_weightsAt 7 = .ok (.istore_n 3, 1) := by decide +kernel
theorem dX0_weightsAt_8 : decode cX0_weightsAt 8 = .ok (.iconst 0, 1) := by decide +kernel
theorem dX0_weightsAt_9 : decode cX0_weightsAt 9 = .ok (.istore 4, 2) := by decide +kernel
theorem dX0_weightsAt_11 : decode cX0_weightsAt 11 = .ok (.iload 4, 2) := by decide +kernel
theorem dX0_weightsAt_13 : decode cX0_weightsAt 13 = .ok (.iload_n 3, 1) := by decide +kernel
theorem dX0_weightsAt_14 : decode cX0_weightsAt 14 = .ok (.if_icmp .ge 19, 3) := by decide +kernel
theorem dX0_weightsAt_17 : decode cX0_weightsAt 17 = .ok (.iload_n 2, 1) := by decide +kernel
theorem dX0_weightsAt_18 : decode cX0_weightsAt 18 = .ok (.aload_n 0, 1) := by decide +kernel
theorem dX0_weightsAt_19 : decode cX0_weightsAt 19 = .ok (.iload_n 1, 1) := by decide +kernel
theorem dX0_weightsAt_20 : decode cX0_weightsAt 20 = .ok (.iload 4, 2) := by decide +kernel
theorem dX0_weightsAt_22 : decode cX0_weightsAt 22 = .ok (.invokevirtual 64, 3) := by decide +kernel
theorem dX0_weightsAt_25 : decode cX0_weightsAt 25 = .ok (.iadd, 1) := by decide +kernel
theorem dX0_weightsAt_26 : decode cX0_weightsAt 26 = .ok (.istore_n 2, 1) := by decide +kernel
theorem dX0_weightsAt_27 : decode cX0_weightsAt 27 = .ok (.iinc 4 1, 3) := by decide +kernel
theorem dX0_weightsAt_30 : decode cX0_weightsAt 30 = .ok (.goto (-19), 3) := by decide +kernel
theorem dX0_weightsAt_33 : decode cX0_weightsAt 33 = .ok (.iload_n 2, 1) := by decide +kernel
theorem dX0_weightsAt_34 : decode cX0_weightsAt 34 = .ok (.ireturn, 1) := by decide +kernel
theorem dX0_isFull_0 : decode cX0_isFull 0 = .ok (.aload_n 0, 1) := by decide +kernel
theorem dX0_isFull_1 : decode cX0_isFull 1 = .ok (.iload_n 1, 1) := by decide +kernel
theorem dX0_isFull_2 : decode cX0_isFull 2 = .ok (.invokevirtual 61, 3) := by decide +kernel
theorem dX0_isFull_5 : decode cX0_isFull 5 = .ok (.aload_n 0, 1) := by decide +kernel
theorem dX0_isFull_6 : decode cX0_isFull 6 = .ok (.getfield 19, 3) := by decide +kernel
theorem dX0_isFull_9 : decode cX0_isFull 9 = .ok (.iconst 0, 1) := by decide +kernel
theorem dX0_isFull_10 : decode cX0_isFull 10 = .ok (.iaload, 1) := by decide +kernel
theorem dX0_isFull_11 : decode cX0_isFull 11 = .ok (.if_icmp .lt 7, 3) := by decide +kernel
theorem dX0_isFull_14 : decode cX0_isFull 14 = .ok (.iconst 1, 1) := by decide +kernel
theorem dX0_isFull_15 : decode cX0_isFull 15 = .ok (.goto 4, 3) := by decide +kernel
theorem dX0_isFull_18 : decode cX0_isFull 18 = .ok (.iconst 0, 1) := by decide +kernel
theorem dX0_isFull_19 : decode cX0_isFull 19 = .ok (.ireturn, 1) := by decide +kernel
theorem dX0_putOn_0 : decode cX0_putOn 0 = .ok (.aload_n 0, 1) := by decide +kernel
theorem dX0_putOn_1 : decode cX0_putOn 1 = .ok (.iload_n 2, 1) := by decide +kernel
theorem dX0_putOn_2 : decode cX0_putOn 2 = .ok (.invokevirtual 61, 3) := by decide +kernel
theorem dX0_putOn_5 : decode cX0_putOn 5 = .ok (.istore_n 3, 1) := by decide +kernel
theorem dX0_putOn_6 : decode cX0_putOn 6 = .ok (.iload_n 2, 1) := by decide +kernel
theorem dX0_putOn_7 : decode cX0_putOn 7 = .ok (.invokestatic 53, 3) := by decide +kernel
theorem dX0_putOn_10 : decode cX0_putOn 10 = .ok (.ifCond .eq 12, 3) := by decide +kernel
theorem dX0_putOn_13 : decode cX0_putOn 13 = .ok (.iload_n 3, 1) := by decide +kernel
theorem dX0_putOn_14 : decode cX0_putOn 14 = .ok (.ifCond .lt 8, 3) := by decide +kernel
theorem dX0_putOn_17 : decode cX0_putOn 17 = .ok (.iload_n 3, 1) := by decide +kernel
theorem dX0_putOn_18 : decode cX0_putOn 18 = .ok (.iconst 4, 1) := by decide +kernel
theorem dX0_putOn_19 : decode cX0_putOn 19 = .ok (.if_icmp .lt 4, 3) := by decide +kernel
theorem dX0_putOn_22 : decode cX0_putOn 22 = .ok (.return_, 1) := by decide +kernel
theorem dX0_putOn_23 : decode cX0_putOn 23 = .ok (.aload_n 0, 1) := by decide +kernel
theorem dX0_putOn_24 : decode cX0_putOn 24 = .ok (.getfield 9, 3) := by decide +kernel
theorem dX0_putOn_27 : decode cX0_putOn 27 = .ok (.iload_n 2, 1) := by decide +kernel
theorem dX0_putOn_28 : decode cX0_putOn 28 = .ok (.invokestatic 57, 3) := by decide +kernel
theorem dX0_putOn_31 : decode cX0_putOn 31 = .ok (.iconst 4, 1) := by decide +kernel
theorem dX0_putOn_32 : decode cX0_putOn 32 = .ok (.imul, 1) := by decide +kernel
theorem dX0_putOn_33 : decode cX0_putOn 33 = .ok (.iload_n 3, 1) := by decide +kernel
theorem dX0_putOn_34 : decode cX0_putOn 34 = .ok (.iadd, 1) := by decide +kernel
theorem dX0_putOn_35 : decode cX0_putOn 35 = .ok (.iload_n 1, 1) := by decide +kernel
theorem dX0_putOn_36 : decode cX0_putOn 36 = .ok (.iastore, 1) := by decide +kernel
theorem dX0_putOn_37 : decode cX0_putOn 37 = .ok (.aload_n 0, 1) := by decide +kernel
theorem dX0_putOn_38 : decode cX0_putOn 38 = .ok (.getfield 13, 3) := by decide +kernel
theorem dX0_putOn_41 : decode cX0_putOn 41 = .ok (.iload_n 2, 1) := by decide +kernel
theorem dX0_putOn_42 : decode cX0_putOn 42 = .ok (.invokestatic 57, 3) := by decide +kernel
theorem dX0_putOn_45 : decode cX0_putOn 45 = .ok (.iload_n 3, 1) := by decide +kernel
theorem dX0_putOn_46 : decode cX0_putOn 46 = .ok (.iconst 1, 1) := by decide +kernel
theorem dX0_putOn_47 : decode cX0_putOn 47 = .ok (.iadd, 1) := by decide +kernel
theorem dX0_putOn_48 : decode cX0_putOn 48 = .ok (.iastore, 1) := by decide +kernel
theorem dX0_putOn_49 : decode cX0_putOn 49 = .ok (.aload_n 0, 1) := by decide +kernel
theorem dX0_putOn_50 : decode cX0_putOn 50 = .ok (.dup, 1) := by decide +kernel
theorem dX0_putOn_51 : decode cX0_putOn 51 = .ok (.getfield 41, 3) := by decide +kernel
theorem dX0_putOn_54 : decode cX0_putOn 54 = .ok (.iload_n 1, 1) := by decide +kernel
theorem dX0_putOn_55 : decode cX0_putOn 55 = .ok (.iload_n 2, 1) := by decide +kernel
theorem dX0_putOn_56 : decode cX0_putOn 56 = .ok (.imul, 1) := by decide +kernel
theorem dX0_putOn_57 : decode cX0_putOn 57 = .ok (.iadd, 1) := by decide +kernel
theorem dX0_putOn_58 : decode cX0_putOn 58 = .ok (.putfield 41, 3) := by decide +kernel
theorem dX0_putOn_61 : decode cX0_putOn 61 = .ok (.return_, 1) := by decide +kernel
theorem dX0_takeFrom_0 : decode cX0_takeFrom 0 = .ok (.aload_n 0, 1) := by decide +kernel
theorem dX0_takeFrom_1 : decode cX0_takeFrom 1 = .ok (.iload_n 1, 1) := by decide +kernel
theorem dX0_takeFrom_2 : decode cX0_takeFrom 2 = .ok (.invokevirtual 61, 3) := by decide +kernel
theorem dX0_takeFrom_5 : decode cX0_takeFrom 5 = .ok (.istore_n 2, 1) := by decide +kernel
theorem dX0_takeFrom_6 : decode cX0_takeFrom 6 = .ok (.iload_n 1, 1) := by decide +kernel
theorem dX0_takeFrom_7 : decode cX0_takeFrom 7 = .ok (.invokestatic 53, 3) := by decide +kernel
theorem dX0_takeFrom_10 : decode cX0_takeFrom 10 = .ok (.ifCond .eq 7, 3) := by decide +kernel
theorem dX0_takeFrom_13 : decode cX0_takeFrom 13 = .ok (.iload_n 2, 1) := by decide +kernel
theorem dX0_takeFrom_14 : decode cX0_takeFrom 14 = .ok (.ifCond .gt 5, 3) := by decide +kernel
theorem dX0_takeFrom_17 : decode cX0_takeFrom 17 = .ok (.iconst 0, 1) := by decide +kernel
theorem dX0_takeFrom_18 : decode cX0_takeFrom 18 = .ok (.ireturn, 1) := by decide +kernel
theorem dX0_takeFrom_19 : decode cX0_takeFrom 19 = .ok (.aload_n 0, 1) := by decide +kernel
theorem dX0_takeFrom_20 : decode cX0_takeFrom 20 = .ok (.iload_n 1, 1) := by decide +kernel
theorem dX0_takeFrom_21 : decode cX0_takeFrom 21 = .ok (.iload_n 2, 1) := by decide +kernel
theorem dX0_takeFrom_22 : decode cX0_takeFrom 22 = .ok (.iconst 1, 1) := by decide +kernel
theorem dX0_takeFrom_23 : decode cX0_takeFrom 23 = .ok (.isub, 1) := by decide +kernel
theorem dX0_takeFrom_24 : decode cX0_takeFrom 24 = .ok (.invokevirtual 64, 3) := by decide +kernel
theorem dX0_takeFrom_27 : decode cX0_takeFrom 27 = .ok (.istore_n 3, 1) := by decide +kernel
theorem dX0_takeFrom_28 : decode cX0_takeFrom 28 = .ok (.aload_n 0, 1) := by decide +kernel
theorem dX0_takeFrom_29 : decode cX0_takeFrom 29 = .ok (.getfield 13, 3) := by decide +kernel
theorem dX0_takeFrom_32 : decode cX0_takeFrom 32 = .ok (.iload_n 1, 1) := by decide +kernel
theorem dX0_takeFrom_33 : decode cX0_takeFrom 33 = .ok (.invokestatic 57, 3) := by decide +kernel
theorem dX0_takeFrom_36 : decode cX0_takeFrom 36 = .ok (.iload_n 2, 1) := by decide +kernel
theorem dX0_takeFrom_37 : decode cX0_takeFrom 37 = .ok (.iconst 1, 1) := by decide +kernel
theorem dX0_takeFrom_38 : decode cX0_takeFrom 38 = .ok (.isub, 1) := by decide +kernel
theorem dX0_takeFrom_39 : decode cX0_takeFrom 39 = .ok (.iastore, 1) := by decide +kernel
theorem dX0_takeFrom_40 : decode cX0_takeFrom 40 = .ok (.aload_n 0, 1) := by decide +kernel
theorem dX0_takeFrom_41 : decode cX0_takeFrom 41 = .ok (.dup, 1) := by decide +kernel
theorem dX0_takeFrom_42 : decode cX0_takeFrom 42 = .ok (.getfield 41, 3) := by decide +kernel
theorem dX0_takeFrom_45 : decode cX0_takeFrom 45 = .ok (.iload_n 3, 1) := by decide +kernel
theorem dX0_takeFrom_46 : decode cX0_takeFrom 46 = .ok (.iload_n 1, 1) := by decide +kernel
theorem dX0_takeFrom_47 : decode cX0_takeFrom 47 = .ok (.imul, 1) := by decide +kernel
theorem dX0_takeFrom_48 : decode cX0_takeFrom 48 = .ok (.isub, 1) := by decide +kernel
theorem dX0_takeFrom_49 : decode cX0_takeFrom 49 = .ok (.putfield 41, 3) := by decide +kernel
theorem dX0_takeFrom_52 : decode cX0_takeFrom 52 = .ok (.iload_n 3, 1) := by decide +kernel
theorem dX0_takeFrom_53 : decode cX0_takeFrom 53 = .ok (.ireturn, 1) := by decide +kernel
theorem dX0_tokens_0 : decode cX0_tokens 0 = .ok (.iconst 0, 1) := by decide +kernel
theorem dX0_tokens_1 : decode cX0_tokens 1 = .ok (.istore_n 1, 1) := by decide +kernel
theorem dX0_tokens_2 : decode cX0_tokens 2 = .ok (.iconst 0, 1) := by decide +kernel
theorem dX0_tokens_3 : decode cX0_tokens 3 = .ok (.istore_n 2, 1) := by decide +kernel
theorem dX0_tokens_4 : decode cX0_tokens 4 = .ok (.iload_n 2, 1) := by decide +kernel
theorem dX0_tokens_5 : decode cX0_tokens 5 = .ok (.aload_n 0, 1) := by decide +kernel
theorem dX0_tokens_6 : decode cX0_tokens 6 = .ok (.getfield 13, 3) := by decide +kernel
theorem dX0_tokens_9 : decode cX0_tokens 9 = .ok (.arraylength, 1) := by decide +kernel
theorem dX0_tokens_10 : decode cX0_tokens 10 = .ok (.if_icmp .ge 18, 3) := by decide +kernel
theorem dX0_tokens_13 : decode cX0_tokens 13 = .ok (.iload_n 1, 1) := by decide +kernel
theorem dX0_tokens_14 : decode cX0_tokens 14 = .ok (.aload_n 0, 1) := by decide +kernel
theorem dX0_tokens_15 : decode cX0_tokens 15 = .ok (.getfield 13, 3) := by decide +kernel
theorem dX0_tokens_18 : decode cX0_tokens 18 = .ok (.iload_n 2, 1) := by decide +kernel
theorem dX0_tokens_19 : decode cX0_tokens 19 = .ok (.iaload, 1) := by decide +kernel
theorem dX0_tokens_20 : decode cX0_tokens 20 = .ok (.iadd, 1) := by decide +kernel
theorem dX0_tokens_21 : decode cX0_tokens 21 = .ok (.istore_n 1, 1) := by decide +kernel
theorem dX0_tokens_22 : decode cX0_tokens 22 = .ok (.iinc 2 1, 3) := by decide +kernel
theorem dX0_tokens_25 : decode cX0_tokens 25 = .ok (.goto (-21), 3) := by decide +kernel
theorem dX0_tokens_28 : decode cX0_tokens 28 = .ok (.iload_n 1, 1) := by decide +kernel
theorem dX0_tokens_29 : decode cX0_tokens 29 = .ok (.ireturn, 1) := by decide +kernel
theorem dX0_weights_0 : decode cX0_weights 0 = .ok (.iconst 0, 1) := by decide +kernel
theorem dX0_weights_1 : decode cX0_weights 1 = .ok (.istore_n 1, 1) := by decide +kernel
theorem dX0_weights_2 : decode cX0_weights 2 = .ok (.bipush (-6), 2) := by decide +kernel
theorem dX0_weights_4 : decode cX0_weights 4 = .ok (.istore_n 2, 1) := by decide +kernel
theorem dX0_weights_5 : decode cX0_weights 5 = .ok (.iload_n 2, 1) := by decide +kernel
theorem dX0_weights_6 : decode cX0_weights 6 = .ok (.bipush 6, 2) := by decide +kernel
theorem dX0_weights_8 : decode cX0_weights 8 = .ok (.if_icmp .gt 17, 3) := by decide +kernel
theorem dX0_weights_11 : decode cX0_weights 11 = .ok (.iload_n 1, 1) := by decide +kernel
theorem dX0_weights_12 : decode cX0_weights 12 = .ok (.aload_n 0, 1) := by decide +kernel
theorem dX0_weights_13 : decode cX0_weights 13 = .ok (.iload_n 2, 1) := by decide +kernel
theorem dX0_weights_14 : decode cX0_weights 14 = .ok (.invokevirtual 68, 3) := by decide +kernel
theorem dX0_weights_17 : decode cX0_weights 17 = .ok (.iadd, 1) := by decide +kernel
theorem dX0_weights_18 : decode cX0_weights 18 = .ok (.istore_n 1, 1) := by decide +kernel
theorem dX0_weights_19 : decode cX0_weights 19 = .ok (.iinc 2 1, 3) := by decide +kernel
theorem dX0_weights_22 : decode cX0_weights 22 = .ok (.goto (-17), 3) := by decide +kernel
theorem dX0_weights_25 : decode cX0_weights 25 = .ok (.iload_n 1, 1) := by decide +kernel
theorem dX0_weights_26 : decode cX0_weights 26 = .ok (.ireturn, 1) := by decide +kernel
theorem dX0_inBag_0 : decode cX0_inBag 0 = .ok (.iload_n 1, 1) := by decide +kernel
theorem dX0_inBag_1 : decode cX0_inBag 1 = .ok (.invokestatic 71, 3) := by decide +kernel
theorem dX0_inBag_4 : decode cX0_inBag 4 = .ok (.ifCond .eq 12, 3) := by decide +kernel
theorem dX0_inBag_7 : decode cX0_inBag 7 = .ok (.iload_n 2, 1) := by decide +kernel
theorem dX0_inBag_8 : decode cX0_inBag 8 = .ok (.ifCond .lt 8, 3) := by decide +kernel
theorem dX0_inBag_11 : decode cX0_inBag 11 = .ok (.iload_n 2, 1) := by decide +kernel
theorem dX0_inBag_12 : decode cX0_inBag 12 = .ok (.iconst 5, 1) := by decide +kernel
theorem dX0_inBag_13 : decode cX0_inBag 13 = .ok (.if_icmp .le 5, 3) := by decide +kernel
theorem dX0_inBag_16 : decode cX0_inBag 16 = .ok (.iconst 0, 1) := by decide +kernel
theorem dX0_inBag_17 : decode cX0_inBag 17 = .ok (.ireturn, 1) := by decide +kernel
theorem dX0_inBag_18 : decode cX0_inBag 18 = .ok (.aload_n 0, 1) := by decide +kernel
theorem dX0_inBag_19 : decode cX0_inBag 19 = .ok (.getfield 16, 3) := by decide +kernel
theorem dX0_inBag_22 : decode cX0_inBag 22 = .ok (.iload_n 1, 1) := by decide +kernel
theorem dX0_inBag_23 : decode cX0_inBag 23 = .ok (.bipush 6, 2) := by decide +kernel
theorem dX0_inBag_25 : decode cX0_inBag 25 = .ok (.imul, 1) := by decide +kernel
theorem dX0_inBag_26 : decode cX0_inBag 26 = .ok (.iload_n 2, 1) := by decide +kernel
theorem dX0_inBag_27 : decode cX0_inBag 27 = .ok (.iadd, 1) := by decide +kernel
theorem dX0_inBag_28 : decode cX0_inBag 28 = .ok (.iaload, 1) := by decide +kernel
theorem dX0_inBag_29 : decode cX0_inBag 29 = .ok (.ireturn, 1) := by decide +kernel
theorem dX0_changeBag_0 : decode cX0_changeBag 0 = .ok (.iload_n 1, 1) := by decide +kernel
theorem dX0_changeBag_1 : decode cX0_changeBag 1 = .ok (.invokestatic 71, 3) := by decide +kernel
theorem dX0_changeBag_4 : decode cX0_changeBag 4 = .ok (.ifCond .eq 10, 3) := by decide +kernel
theorem dX0_changeBag_7 : decode cX0_changeBag 7 = .ok (.iload_n 2, 1) := by decide +kernel
theorem dX0_changeBag_8 : decode cX0_changeBag 8 = .ok (.invokestatic 74, 3) := by decide +kernel
theorem dX0_changeBag_11 : decode cX0_changeBag 11 = .ok (.ifCond .ne 4, 3) := by decide +kernel
theorem dX0_changeBag_14 : decode cX0_changeBag 14 = .ok (.return_, 1) := by decide +kernel
theorem dX0_changeBag_15 : decode cX0_changeBag 15 = .ok (.aload_n 0, 1) := by decide +kernel
theorem dX0_changeBag_16 : decode cX0_changeBag 16 = .ok (.getfield 16, 3) := by decide +kernel
theorem dX0_changeBag_19 : decode cX0_changeBag 19 = .ok (.iload_n 1, 1) := by decide +kernel
theorem dX0_changeBag_20 : decode cX0_changeBag 20 = .ok (.bipush 6, 2) := by decide +kernel
theorem dX0_changeBag_22 : decode cX0_changeBag 22 = .ok (.imul, 1) := by decide +kernel
theorem dX0_changeBag_23 : decode cX0_changeBag 23 = .ok (.iload_n 2, 1) := by decide +kernel
theorem dX0_changeBag_24 : decode cX0_changeBag 24 = .ok (.iadd, 1) := by decide +kernel
theorem dX0_changeBag_25 : decode cX0_changeBag 25 = .ok (.dup2, 1) := by decide +kernel
theorem dX0_changeBag_26 : decode cX0_changeBag 26 = .ok (.iaload, 1) := by decide +kernel
theorem dX0_changeBag_27 : decode cX0_changeBag 27 = .ok (.iload_n 3, 1) := by decide +kernel
theorem dX0_changeBag_28 : decode cX0_changeBag 28 = .ok (.iadd, 1) := by decide +kernel
theorem dX0_changeBag_29 : decode cX0_changeBag 29 = .ok (.iastore, 1) := by decide +kernel
theorem dX0_changeBag_30 : decode cX0_changeBag 30 = .ok (.aload_n 0, 1) := by decide +kernel
theorem dX0_changeBag_31 : decode cX0_changeBag 31 = .ok (.getfield 16, 3) := by decide +kernel
theorem dX0_changeBag_34 : decode cX0_changeBag 34 = .ok (.iload_n 1, 1) := by decide +kernel
theorem dX0_changeBag_35 : decode cX0_changeBag 35 = .ok (.bipush 6, 2) := by decide +kernel
theorem dX0_changeBag_37 : decode cX0_changeBag 37 = .ok (.imul, 1) := by decide +kernel
theorem dX0_changeBag_38 : decode cX0_changeBag 38 = .ok (.iconst 0, 1) := by decide +kernel
theorem dX0_changeBag_39 : decode cX0_changeBag 39 = .ok (.iadd, 1) := by decide +kernel
theorem dX0_changeBag_40 : decode cX0_changeBag 40 = .ok (.dup2, 1) := by decide +kernel
theorem dX0_changeBag_41 : decode cX0_changeBag 41 = .ok (.iaload, 1) := by decide +kernel
theorem dX0_changeBag_42 : decode cX0_changeBag 42 = .ok (.iload_n 3, 1) := by decide +kernel
theorem dX0_changeBag_43 : decode cX0_changeBag 43 = .ok (.iadd, 1) := by decide +kernel
theorem dX0_changeBag_44 : decode cX0_changeBag 44 = .ok (.iastore, 1) := by decide +kernel
theorem dX0_changeBag_45 : decode cX0_changeBag 45 = .ok (.return_, 1) := by decide +kernel
theorem dX0_setting_0 : decode cX0_setting 0 = .ok (.iload_n 1, 1) := by decide +kernel
theorem dX0_setting_1 : decode cX0_setting 1 = .ok (.invokestatic 77, 3) := by decide +kernel
theorem dX0_setting_4 : decode cX0_setting 4 = .ok (.ifCond .eq 12, 3) := by decide +kernel
theorem dX0_setting_7 : decode cX0_setting 7 = .ok (.aload_n 0, 1) := by decide +kernel
theorem dX0_setting_8 : decode cX0_setting 8 = .ok (.getfield 19, 3) := by decide +kernel
theorem dX0_setting_11 : decode cX0_setting 11 = .ok (.iload_n 1, 1) := by decide +kernel
theorem dX0_setting_12 : decode cX0_setting 12 = .ok (.iaload, 1) := by decide +kernel
theorem dX0_setting_13 : decode cX0_setting 13 = .ok (.goto 4, 3) := by decide +kernel
theorem dX0_setting_16 : decode cX0_setting 16 = .ok (.iconst 0, 1) := by decide +kernel
theorem dX0_setting_17 : decode cX0_setting 17 = .ok (.ireturn, 1) := by decide +kernel
theorem dX0_changeSetting_0 : decode cX0_changeSetting 0 = .ok (.iload_n 1, 1) := by decide +kernel
theorem dX0_changeSetting_1 : decode cX0_changeSetting 1 = .ok (.invokestatic 77, 3) := by decide +kernel
theorem dX0_changeSetting_4 : decode cX0_changeSetting 4 = .ok (.ifCond .eq 10, 3) := by decide +kernel
theorem dX0_changeSetting_7 : decode cX0_changeSetting 7 = .ok (.aload_n 0, 1) := by decide +kernel
theorem dX0_changeSetting_8 : decode cX0_changeSetting 8 = .ok (.getfield 19, 3) := by decide +kernel
theorem dX0_changeSetting_11 : decode cX0_changeSetting 11 = .ok (.iload_n 1, 1) := by decide +kernel
theorem dX0_changeSetting_12 : decode cX0_changeSetting 12 = .ok (.iload_n 2, 1) := by decide +kernel
theorem dX0_changeSetting_13 : decode cX0_changeSetting 13 = .ok (.iastore, 1) := by decide +kernel
theorem dX0_changeSetting_14 : decode cX0_changeSetting 14 = .ok (.return_, 1) := by decide +kernel
theorem dX0_outcome_0 : decode cX0_outcome 0 = .ok (.aload_n 0, 1) := by decide +kernel
theorem dX0_outcome_1 : decode cX0_outcome 1 = .ok (.getfield 41, 3) := by decide +kernel
theorem dX0_outcome_4 : decode cX0_outcome 4 = .ok (.invokestatic 80, 3) := by decide +kernel
theorem dX0_outcome_7 : decode cX0_outcome 7 = .ok (.aload_n 0, 1) := by decide +kernel
theorem dX0_outcome_8 : decode cX0_outcome 8 = .ok (.getfield 19, 3) := by decide +kernel
theorem dX0_outcome_11 : decode cX0_outcome 11 = .ok (.iconst 1, 1) := by decide +kernel
theorem dX0_outcome_12 : decode cX0_outcome 12 = .ok (.iaload, 1) := by decide +kernel
theorem dX0_outcome_13 : decode cX0_outcome 13 = .ok (.if_icmp .le 31, 3) := by decide +kernel
theorem dX0_outcome_16 : decode cX0_outcome 16 = .ok (.aload_n 0, 1) := by decide +kernel
theorem dX0_outcome_17 : decode cX0_outcome 17 = .ok (.getfield 19, 3) := by decide +kernel
theorem dX0_outcome_20 : decode cX0_outcome 20 = .ok (.iconst 3, 1) := by decide +kernel
theorem dX0_outcome_21 : decode cX0_outcome 21 = .ok (.iaload, 1) := by decide +kernel
theorem dX0_outcome_22 : decode cX0_outcome 22 = .ok (.iconst 1, 1) := by decide +kernel
theorem dX0_outcome_23 : decode cX0_outcome 23 = .ok (.if_icmp .ne 10, 3) := by decide +kernel
theorem dX0_outcome_26 : decode cX0_outcome 26 = .ok (.aload_n 0, 1) := by decide +kernel
theorem dX0_outcome_27 : decode cX0_outcome 27 = .ok (.getfield 25, 3) := by decide +kernel
theorem dX0_outcome_30 : decode cX0_outcome 30 = .ok (.goto 9, 3) := by decide +kernel
theorem dX0_outcome_33 : decode cX0_outcome 33 = .ok (.iconst 1, 1) := by decide +kernel
theorem dX0_outcome_34 : decode cX0_outcome 34 = .ok (.aload_n 0, 1) := by decide +kernel
theorem dX0_outcome_35 : decode cX0_outcome 35 = .ok (.getfield 25, 3) := by decide +kernel
theorem dX0_outcome_38 : decode cX0_outcome 38 = .ok (.isub, 1) := by decide +kernel
theorem dX0_outcome_39 : decode cX0_outcome 39 = .ok (.istore_n 1, 1) := by decide +kernel
theorem dX0_outcome_40 : decode cX0_outcome 40 = .ok (.iconst 1, 1) := by decide +kernel
theorem dX0_outcome_41 : decode cX0_outcome 41 = .ok (.iload_n 1, 1) := by decide +kernel
theorem dX0_outcome_42 : decode cX0_outcome 42 = .ok (.iadd, 1) := by decide +kernel
theorem dX0_outcome_43 : decode cX0_outcome 43 = .ok (.ireturn, 1) := by decide +kernel
theorem dX0_outcome_44 : decode cX0_outcome 44 = .ok (.aload_n 0, 1) := by decide +kernel
theorem dX0_outcome_45 : decode cX0_outcome 45 = .ok (.iconst 0, 1) := by decide +kernel
theorem dX0_outcome_46 : decode cX0_outcome 46 = .ok (.iconst 0, 1) := by decide +kernel
theorem dX0_outcome_47 : decode cX0_outcome 47 = .ok (.invokevirtual 85, 3) := by decide +kernel
theorem dX0_outcome_50 : decode cX0_outcome 50 = .ok (.ifCond .ne 16, 3) := by decide +kernel
theorem dX0_outcome_53 : decode cX0_outcome 53 = .ok (.aload_n 0, 1) := by decide +kernel
theorem dX0_outcome_54 : decode cX0_outcome 54 = .ok (.iconst 1, 1) := by decide +kernel
theorem dX0_outcome_55 : decode cX0_outcome 55 = .ok (.iconst 0, 1) := by decide +kernel
theorem dX0_outcome_56 : decode cX0_outcome 56 = .ok (.invokevirtual 85, 3) := by decide +kernel
theorem dX0_outcome_59 : decode cX0_outcome 59 = .ok (.ifCond .ne 7, 3) := by decide +kernel
theorem dX0_outcome_62 : decode cX0_outcome 62 = .ok (.iconst 3, 1) := by decide +kernel
theorem dX0_outcome_63 : decode cX0_outcome 63 = .ok (.goto 4, 3) := by decide +kernel
theorem dX0_outcome_66 : decode cX0_outcome 66 = .ok (.iconst 0, 1) := by decide +kernel
theorem dX0_outcome_67 : decode cX0_outcome 67 = .ok (.ireturn, 1) := by decide +kernel
theorem dX0_worth_0 : decode cX0_worth 0 = .ok (.iload_n 1, 1) := by decide +kernel
theorem dX0_worth_1 : decode cX0_worth 1 = .ok (.ifCond .eq 8, 3) := by decide +kernel
theorem dX0_worth_4 : decode cX0_worth 4 = .ok (.iload_n 1, 1) := by decide +kernel
theorem dX0_worth_5 : decode cX0_worth 5 = .ok (.iconst 3, 1) := by decide +kernel
theorem dX0_worth_6 : decode cX0_worth 6 = .ok (.if_icmp .ne 5, 3) := by decide +kernel
theorem dX0_worth_9 : decode cX0_worth 9 = .ok (.iconst 0, 1) := by decide +kernel
theorem dX0_worth_10 : decode cX0_worth 10 = .ok (.ireturn, 1) := by decide +kernel
theorem dX0_worth_11 : decode cX0_worth 11 = .ok (.iload_n 1, 1) := by decide +kernel
theorem dX0_worth_12 : decode cX0_worth 12 = .ok (.iconst 1, 1) := by decide +kernel
theorem dX0_worth_13 : decode cX0_worth 13 = .ok (.aload_n 0, 1) := by decide +kernel
theorem dX0_worth_14 : decode cX0_worth 14 = .ok (.getfield 35, 3) := by decide +kernel
theorem dX0_worth_17 : decode cX0_worth 17 = .ok (.iadd, 1) := by decide +kernel
theorem dX0_worth_18 : decode cX0_worth 18 = .ok (.if_icmp .ne 7, 3) := by decide +kernel
theorem dX0_worth_21 : decode cX0_worth 21 = .ok (.iconst 1, 1) := by decide +kernel
theorem dX0_worth_22 : decode cX0_worth 22 = .ok (.goto 4, 3) := by decide +kernel
theorem dX0_worth_25 : decode cX0_worth 25 = .ok (.iconst (-1), 1) := by decide +kernel
theorem dX0_worth_26 : decode cX0_worth 26 = .ok (.ireturn, 1) := by decide +kernel
theorem dX0_whyNot_0 : decode cX0_whyNot 0 = .ok (.aload_n 0, 1) := by decide +kernel
theorem dX0_whyNot_1 : decode cX0_whyNot 1 = .ok (.invokevirtual 88, 3) := by decide +kernel
theorem dX0_whyNot_4 : decode cX0_whyNot 4 = .ok (.ifCond .eq 7, 3) := by decide +kernel
theorem dX0_whyNot_7 : decode cX0_whyNot 7 = .ok (.iconst 1, 1) := by decide +kernel
theorem dX0_whyNot_8 : decode cX0_whyNot 8 = .ok (.goto 9, 3) := by decide +kernel
theorem dX0_whyNot_11 : decode cX0_whyNot 11 = .ok (.aload_n 0, 1) := by decide +kernel
theorem dX0_whyNot_12 : decode cX0_whyNot 12 = .ok (.iload_n 1, 1) := by decide +kernel
theorem dX0_whyNot_13 : decode cX0_whyNot 13 = .ok (.iload_n 2, 1) := by decide +kernel
theorem dX0_whyNot_14 : decode cX0_whyNot 14 = .ok (.invokevirtual 92, 3) := by decide +kernel
theorem dX0_whyNot_17 : decode cX0_whyNot 17 = .ok (.ireturn, 1) := by decide +kernel
theorem dX0_hindrance_0 : decode cX0_hindrance 0 = .ok (.iload_n 1, 1) := by decide +kernel
theorem dX0_hindrance_1 : decode cX0_hindrance 1 = .ok (.bipush 6, 2) := by decide +kernel
theorem dX0_hindrance_3 : decode cX0_hindrance 3 = .ok (.if_icmp .ge 17, 3) := by decide +kernel
theorem dX0_hindrance_6 : decode cX0_hindrance 6 = .ok (.aload_n 0, 1) := by decide +kernel
theorem dX0_hindrance_7 : decode cX0_hindrance 7 = .ok (.aload_n 0, 1) := by decide +kernel
theorem dX0_hindrance_8 : decode cX0_hindrance 8 = .ok (.getfield 35, 3) := by decide +kernel
theorem dX0_hindrance_11 : decode cX0_hindrance 11 = .ok (.iload_n 1, 1) := by decide +kernel
theorem dX0_hindrance_12 : decode cX0_hindrance 12 = .ok (.invokevirtual 85, 3) := by decide +kernel
theorem dX0_hindrance_15 : decode cX0_hindrance 15 = .ok (.ifCond .ne 34, 3) := by decide +kernel
theorem dX0_hindrance_18 : decode cX0_hindrance 18 = .ok (.iconst 2, 1) := by decide +kernel
theorem dX0_hindrance_19 : decode cX0_hindrance 19 = .ok (.ireturn, 1) := by decide +kernel
theorem dX0_hindrance_20 : decode cX0_hindrance 20 = .ok (.aload_n 0, 1) := by decide +kernel
theorem dX0_hindrance_21 : decode cX0_hindrance 21 = .ok (.getfield 19, 3) := by decide +kernel
theorem dX0_hindrance_24 : decode cX0_hindrance 24 = .ok (.iconst 2, 1) := by decide +kernel
theorem dX0_hindrance_25 : decode cX0_hindrance 25 = .ok (.iaload, 1) := by decide +kernel
theorem dX0_hindrance_26 : decode cX0_hindrance 26 = .ok (.ifCond .ne 5, 3) := by decide +kernel
theorem dX0_hindrance_29 : decode cX0_hindrance 29 = .ok (.iconst 2, 1) := by decide +kernel
theorem dX0_hindrance_30 : decode cX0_hindrance 30 = .ok (.ireturn, 1) := by decide +kernel
theorem dX0_hindrance_31 : decode cX0_hindrance 31 = .ok (.aload_n 0, 1) := by decide +kernel
theorem dX0_hindrance_32 : decode cX0_hindrance 32 = .ok (.iload_n 2, 1) := by decide +kernel
theorem dX0_hindrance_33 : decode cX0_hindrance 33 = .ok (.invokevirtual 61, 3) := by decide +kernel
theorem dX0_hindrance_36 : decode cX0_hindrance 36 = .ok (.ifCond .eq 11, 3) := by decide +kernel
theorem dX0_hindrance_39 : decode cX0_hindrance 39 = .ok (.iload_n 2, 1) := by decide +kernel
theorem dX0_hindrance_40 : decode cX0_hindrance 40 = .ok (.aload_n 0, 1) := by decide +kernel
theorem dX0_hindrance_41 : decode cX0_hindrance 41 = .ok (.getfield 38, 3) := by decide +kernel
theorem dX0_hindrance_44 : decode cX0_hindrance 44 = .ok (.if_icmp .ne 5, 3) := by decide +kernel
theorem dX0_hindrance_47 : decode cX0_hindrance 47 = .ok (.iconst 3, 1) := by decide +kernel
theorem dX0_hindrance_48 : decode cX0_hindrance 48 = .ok (.ireturn, 1) := by decide +kernel
theorem dX0_hindrance_49 : decode cX0_hindrance 49 = .ok (.iload_n 1, 1) := by decide +kernel
theorem dX0_hindrance_50 : decode cX0_hindrance 50 = .ok (.iload_n 2, 1) := by decide +kernel
theorem dX0_hindrance_51 : decode cX0_hindrance 51 = .ok (.invokestatic 95, 3) := by decide +kernel
theorem dX0_hindrance_54 : decode cX0_hindrance 54 = .ok (.istore_n 3, 1) := by decide +kernel
theorem dX0_hindrance_55 : decode cX0_hindrance 55 = .ok (.iload_n 3, 1) := by decide +kernel
theorem dX0_hindrance_56 : decode cX0_hindrance 56 = .ok (.invokestatic 53, 3) := by decide +kernel
theorem dX0_hindrance_59 : decode cX0_hindrance 59 = .ok (.ifCond .eq 11, 3) := by decide +kernel
theorem dX0_hindrance_62 : decode cX0_hindrance 62 = .ok (.aload_n 0, 1) := by decide +kernel
theorem dX0_hindrance_63 : decode cX0_hindrance 63 = .ok (.iload_n 3, 1) := by decide +kernel
theorem dX0_hindrance_64 : decode cX0_hindrance 64 = .ok (.invokevirtual 98, 3) := by decide +kernel
theorem dX0_hindrance_67 : decode cX0_hindrance 67 = .ok (.ifCond .eq 7, 3) := by decide +kernel
theorem dX0_hindrance_70 : decode cX0_hindrance 70 = .ok (.iconst 4, 1) := by decide +kernel
theorem dX0_hindrance_71 : decode cX0_hindrance 71 = .ok (.goto 4, 3) := by decide +kernel
theorem dX0_hindrance_74 : decode cX0_hindrance 74 = .ok (.iconst 0, 1) := by decide +kernel
theorem dX0_hindrance_75 : decode cX0_hindrance 75 = .ok (.ireturn, 1) := by decide +kernel
theorem dX0_targetOf_0 : decode cX0_targetOf 0 = .ok (.iload_n 0, 1) := by decide +kernel
theorem dX0_targetOf_1 : decode cX0_targetOf 1 = .ok (.bipush 6, 2) := by decide +kernel
theorem dX0_targetOf_3 : decode cX0_targetOf 3 = .ok (.if_icmp .ge 5, 3) := by decide +kernel
theorem dX0_targetOf_6 : decode cX0_targetOf 6 = .ok (.iload_n 1, 1) := by decide +kernel
theorem dX0_targetOf_7 : decode cX0_targetOf 7 = .ok (.ireturn, 1) := by decide +kernel
theorem dX0_targetOf_8 : decode cX0_targetOf 8 = .ok (.iload_n 1, 1) := by decide +kernel
theorem dX0_targetOf_9 : decode cX0_targetOf 9 = .ok (.ifCond .le 7, 3) := by decide +kernel
theorem dX0_targetOf_12 : decode cX0_targetOf 12 = .ok (.iconst 1, 1) := by decide +kernel
theorem dX0_targetOf_13 : decode cX0_targetOf 13 = .ok (.goto 4, 3) := by decide +kernel
theorem dX0_targetOf_16 : decode cX0_targetOf 16 = .ok (.iconst (-1), 1) := by decide +kernel
theorem dX0_targetOf_17 : decode cX0_targetOf 17 = .ok (.istore_n 2, 1) := by decide +kernel
theorem dX0_targetOf_18 : decode cX0_targetOf 18 = .ok (.iload_n 0, 1) := by decide +kernel
theorem dX0_targetOf_19 : decode cX0_targetOf 19 = .ok (.bipush 7, 2) := by decide +kernel
theorem dX0_targetOf_21 : decode cX0_targetOf 21 = .ok (.if_icmp .ne 7, 3) := by decide +kernel
theorem dX0_targetOf_24 : decode cX0_targetOf 24 = .ok (.iload_n 1, 1) := by decide +kernel
theorem dX0_targetOf_25 : decode cX0_targetOf 25 = .ok (.iload_n 2, 1) := by decide +kernel
theorem dX0_targetOf_26 : decode cX0_targetOf 26 = .ok (.iadd, 1) := by decide +kernel
theorem dX0_targetOf_27 : decode cX0_targetOf 27 = .ok (.ireturn, 1) := by decide +kernel
theorem dX0_targetOf_28 : decode cX0_targetOf 28 = .ok (.iload_n 1, 1) := by decide +kernel
theorem dX0_targetOf_29 : decode cX0_targetOf 29 = .ok (.iload_n 2, 1) := by decide +kernel
theorem dX0_targetOf_30 : decode cX0_targetOf 30 = .ok (.if_icmp .ne 8, 3) := by decide +kernel
theorem dX0_targetOf_33 : decode cX0_targetOf 33 = .ok (.iload_n 2, 1) := by decide +kernel
theorem dX0_targetOf_34 : decode cX0_targetOf 34 = .ok (.ineg, 1) := by decide +kernel
theorem dX0_targetOf_35 : decode cX0_targetOf 35 = .ok (.goto 6, 3) := by decide +kernel
theorem dX0_targetOf_38 : decode cX0_targetOf 38 = .ok (.iload_n 1, 1) := by decide +kernel
theorem dX0_targetOf_39 : decode cX0_targetOf 39 = .ok (.iload_n 2, 1) := by decide +kernel
theorem dX0_targetOf_40 : decode cX0_targetOf 40 = .ok (.isub, 1) := by decide +kernel
theorem dX0_targetOf_41 : decode cX0_targetOf 41 = .ok (.ireturn, 1) := by decide +kernel
theorem dX0_tellingOf_0 : decode cX0_tellingOf 0 = .ok (.iload_n 1, 1) := by decide +kernel
theorem dX0_tellingOf_1 : decode cX0_tellingOf 1 = .ok (.bipush 6, 2) := by decide +kernel
theorem dX0_tellingOf_3 : decode cX0_tellingOf 3 = .ok (.if_icmp .ge 7, 3) := by decide +kernel
theorem dX0_tellingOf_6 : decode cX0_tellingOf 6 = .ok (.iload_n 1, 1) := by decide +kernel
theorem dX0_tellingOf_7 : decode cX0_tellingOf 7 = .ok (.iload_n 2, 1) := by decide +kernel
theorem dX0_tellingOf_8 : decode cX0_tellingOf 8 = .ok (.imul, 1) := by decide +kernel
theorem dX0_tellingOf_9 : decode cX0_tellingOf 9 = .ok (.ireturn, 1) := by decide +kernel
theorem dX0_tellingOf_10 : decode cX0_tellingOf 10 = .ok (.aload_n 0, 1) := by decide +kernel
theorem dX0_tellingOf_11 : decode cX0_tellingOf 11 = .ok (.iload_n 2, 1) := by decide +kernel
theorem dX0_tellingOf_12 : decode cX0_tellingOf 12 = .ok (.invokevirtual 101, 3) := by decide +kernel
theorem dX0_tellingOf_15 : decode cX0_tellingOf 15 = .ok (.iload_n 1, 1) := by decide +kernel
theorem dX0_tellingOf_16 : decode cX0_tellingOf 16 = .ok (.iload_n 2, 1) := by decide +kernel
theorem dX0_tellingOf_17 : decode cX0_tellingOf 17 = .ok (.invokestatic 95, 3) := by decide +kernel
theorem dX0_tellingOf_20 : decode cX0_tellingOf 20 = .ok (.iload_n 2, 1) := by decide +kernel
theorem dX0_tellingOf_21 : decode cX0_tellingOf 21 = .ok (.isub, 1) := by decide +kernel
theorem dX0_tellingOf_22 : decode cX0_tellingOf 22 = .ok (.imul, 1) := by decide +kernel
theorem dX0_tellingOf_23 : decode cX0_tellingOf 23 = .ok (.ireturn, 1) := by decide +kernel
theorem dX0_makeMove_0 : decode cX0_makeMove 0 = .ok (.aload_n 0, 1) := by decide +kernel
theorem dX0_makeMove_1 : decode cX0_makeMove 1 = .ok (.getfield 50, 3) := by decide +kernel
theorem dX0_makeMove_4 : decode cX0_makeMove 4 = .ok (.invokestatic 104, 3) := by decide +kernel
theorem dX0_makeMove_7 : decode cX0_makeMove 7 = .ok (.istore_n 3, 1) := by decide +kernel
theorem dX0_makeMove_8 : decode cX0_makeMove 8 = .ok (.aload_n 0, 1) := by decide +kernel
theorem dX0_makeMove_9 : decode cX0_makeMove 9 = .ok (.getfield 22, 3) := by decide +kernel
theorem dX0_makeMove_12 : decode cX0_makeMove 12 = .ok (.iload_n 3, 1) := by decide +kernel
theorem dX0_makeMove_13 : decode cX0_makeMove 13 = .ok (.aload_n 0, 1) := by decide +kernel
theorem dX0_makeMove_14 : decode cX0_makeMove 14 = .ok (.getfield 35, 3) := by decide +kernel
theorem dX0_makeMove_17 : decode cX0_makeMove 17 = .ok (.iastore, 1) := by decide +kernel
theorem dX0_makeMove_18 : decode cX0_makeMove 18 = .ok (.aload_n 0, 1) := by decide +kernel
theorem dX0_makeMove_19 : decode cX0_makeMove 19 = .ok (.getfield 22, 3) := by decide +kernel
theorem dX0_makeMove_22 : decode cX0_makeMove 22 = .ok (.iload_n 3, 1) := by decide +kernel
theorem dX0_makeMove_23 : decode cX0_makeMove 23 = .ok (.iconst 1, 1) := by decide +kernel
theorem dX0_makeMove_24 : decode cX0_makeMove 24 = .ok (.iadd, 1) := by decide +kernel
theorem dX0_makeMove_25 : decode cX0_makeMove 25 = .ok (.iload_n 1, 1) := by decide +kernel
theorem dX0_makeMove_26 : decode cX0_makeMove 26 = .ok (.iastore, 1) := by decide +kernel
theorem dX0_makeMove_27 : decode cX0_makeMove 27 = .ok (.aload_n 0, 1) := by decide +kernel
theorem dX0_makeMove_28 : decode cX0_makeMove 28 = .ok (.getfield 22, 3) := by decide +kernel
theorem dX0_makeMove_31 : decode cX0_makeMove 31 = .ok (.iload_n 3, 1) := by decide +kernel
theorem dX0_makeMove_32 : decode cX0_makeMove 32 = .ok (.iconst 2, 1) := by decide +kernel
theorem dX0_makeMove_33 : decode cX0_makeMove 33 = .ok (.iadd, 1) := by decide +kernel
theorem dX0_makeMove_34 : decode cX0_makeMove 34 = .ok (.iload_n 2, 1) := by decide +kernel
theorem dX0_makeMove_35 : decode cX0_makeMove 35 = .ok (.iastore, 1) := by decide +kernel
theorem dX0_makeMove_36 : decode cX0_makeMove 36 = .ok (.aload_n 0, 1) := by decide +kernel
theorem dX0_makeMove_37 : decode cX0_makeMove 37 = .ok (.getfield 22, 3) := by decide +kernel
theorem dX0_makeMove_40 : decode cX0_makeMove 40 = .ok (.iload_n 3, 1) := by decide +kernel
theorem dX0_makeMove_41 : decode cX0_makeMove 41 = .ok (.iconst 3, 1) := by decide +kernel
theorem dX0_makeMove_42 : decode cX0_makeMove 42 = .ok (.iadd, 1) := by decide +kernel
theorem dX0_makeMove_43 : decode cX0_makeMove 43 = .ok (.aload_n 0, 1) := by decide +kernel
theorem dX0_makeMove_44 : decode cX0_makeMove 44 = .ok (.iload_n 1, 1) := by decide +kernel
theorem dX0_makeMove_45 : decode cX0_makeMove 45 = .ok (.iload_n 2, 1) := by decide +kernel
theorem dX0_makeMove_46 : decode cX0_makeMove 46 = .ok (.invokevirtual 107, 3) := by decide +kernel
theorem dX0_makeMove_49 : decode cX0_makeMove 49 = .ok (.iastore, 1) := by decide +kernel
theorem dX0_makeMove_50 : decode cX0_makeMove 50 = .ok (.aload_n 0, 1) := by decide +kernel
theorem dX0_makeMove_51 : decode cX0_makeMove 51 = .ok (.dup, 1) := by decide +kernel
theorem dX0_makeMove_52 : decode cX0_makeMove 52 = .ok (.getfield 44, 3) := by decide +kernel
theorem dX0_makeMove_55 : decode cX0_makeMove 55 = .ok (.aload_n 0, 1) := by decide +kernel
theorem dX0_makeMove_56 : decode cX0_makeMove 56 = .ok (.getfield 22, 3) := by decide +kernel
theorem dX0_makeMove_59 : decode cX0_makeMove 59 = .ok (.iload_n 3, 1) := by decide +kernel
theorem dX0_makeMove_60 : decode cX0_makeMove 60 = .ok (.iconst 3, 1) := by decide +kernel
theorem dX0_makeMove_61 : decode cX0_makeMove 61 = .ok (.iadd, 1) := by decide +kernel
theorem dX0_makeMove_62 : decode cX0_makeMove 62 = .ok (.iaload, 1) := by decide +kernel
theorem dX0_makeMove_63 : decode cX0_makeMove 63 = .ok (.iadd, 1) := by decide +kernel
theorem dX0_makeMove_64 : decode cX0_makeMove 64 = .ok (.putfield 44, 3) := by decide +kernel
theorem dX0_makeMove_67 : decode cX0_makeMove 67 = .ok (.aload_n 0, 1) := by decide +kernel
theorem dX0_makeMove_68 : decode cX0_makeMove 68 = .ok (.dup, 1) := by decide +kernel
theorem dX0_makeMove_69 : decode cX0_makeMove 69 = .ok (.getfield 50, 3) := by decide +kernel
theorem dX0_makeMove_72 : decode cX0_makeMove 72 = .ok (.iconst 1, 1) := by decide +kernel
theorem dX0_makeMove_73 : decode cX0_makeMove 73 = .ok (.iadd, 1) := by decide +kernel
theorem dX0_makeMove_74 : decode cX0_makeMove 74 = .ok (.putfield 50, 3) := by decide +kernel
theorem dX0_makeMove_77 : decode cX0_makeMove 77 = .ok (.aload_n 0, 1) := by decide +kernel
theorem dX0_makeMove_78 : decode cX0_makeMove 78 = .ok (.iload_n 1, 1) := by decide +kernel
theorem dX0_makeMove_79 : decode cX0_makeMove 79 = .ok (.iload_n 2, 1) := by decide +kernel
theorem dX0_makeMove_80 : decode cX0_makeMove 80 = .ok (.invokevirtual 110, 3) := by decide +kernel
theorem dX0_makeMove_83 : decode cX0_makeMove 83 = .ok (.aload_n 0, 1) := by decide +kernel
theorem dX0_makeMove_84 : decode cX0_makeMove 84 = .ok (.aload_n 0, 1) := by decide +kernel
theorem dX0_makeMove_85 : decode cX0_makeMove 85 = .ok (.getfield 47, 3) := by decide +kernel
theorem dX0_makeMove_88 : decode cX0_makeMove 88 = .ok (.aload_n 0, 1) := by decide +kernel
theorem dX0_makeMove_89 : decode cX0_makeMove 89 = .ok (.getfield 41, 3) := by decide +kernel
theorem dX0_makeMove_92 : decode cX0_makeMove 92 = .ok (.invokestatic 80, 3) := by decide +kernel
theorem dX0_makeMove_95 : decode cX0_makeMove 95 = .ok (.invokestatic 114, 3) := by decide +kernel
theorem dX0_makeMove_98 : decode cX0_makeMove 98 = .ok (.putfield 47, 3) := by decide +kernel
theorem dX0_makeMove_101 : decode cX0_makeMove 101 = .ok (.return_, 1) := by decide +kernel
theorem dX0_tryMove_0 : decode cX0_tryMove 0 = .ok (.iload_n 1, 1) := by decide +kernel
theorem dX0_tryMove_1 : decode cX0_tryMove 1 = .ok (.iload_n 2, 1) := by decide +kernel
theorem dX0_tryMove_2 : decode cX0_tryMove 2 = .ok (.invokestatic 95, 3) := by decide +kernel
theorem dX0_tryMove_5 : decode cX0_tryMove 5 = .ok (.istore_n 3, 1) := by decide +kernel
theorem dX0_tryMove_6 : decode cX0_tryMove 6 = .ok (.iload_n 1, 1) := by decide +kernel
theorem dX0_tryMove_7 : decode cX0_tryMove 7 = .ok (.bipush 6, 2) := by decide +kernel
theorem dX0_tryMove_9 : decode cX0_tryMove 9 = .ok (.if_icmp .ge 27, 3) := by decide +kernel
theorem dX0_tryMove_12 : decode cX0_tryMove 12 = .ok (.aload_n 0, 1) := by decide +kernel
theorem dX0_tryMove_13 : decode cX0_tryMove 13 = .ok (.aload_n 0, 1) := by decide +kernel
theorem dX0_tryMove_14 : decode cX0_tryMove 14 = .ok (.getfield 35, 3) := by decide +kernel
theorem dX0_tryMove_17 : decode cX0_tryMove 17 = .ok (.iload_n 1, 1) := by decide +kernel
theorem dX0_tryMove_18 : decode cX0_tryMove 18 = .ok (.iconst (-1), 1) := by decide +kernel
theorem dX0_tryMove_19 : decode cX0_tryMove 19 = .ok (.invokevirtual 117, 3) := by decide +kernel
theorem dX0_tryMove_22 : decode cX0_tryMove 22 = .ok (.aload_n 0, 1) := by decide +kernel
theorem dX0_tryMove_23 : decode cX0_tryMove 23 = .ok (.iload_n 1, 1) := by decide +kernel
theorem dX0_tryMove_24 : decode cX0_tryMove 24 = .ok (.iload_n 2, 1) := by decide +kernel
theorem dX0_tryMove_25 : decode cX0_tryMove 25 = .ok (.invokevirtual 121, 3) := by decide +kernel
theorem dX0_tryMove_28 : decode cX0_tryMove 28 = .ok (.aload_n 0, 1) := by decide +kernel
theorem dX0_tryMove_29 : decode cX0_tryMove 29 = .ok (.iconst 0, 1) := by decide +kernel
theorem dX0_tryMove_30 : decode cX0_tryMove 30 = .ok (.putfield 38, 3) := by decide +kernel
theorem dX0_tryMove_33 : decode cX0_tryMove 33 = .ok (.goto 18, 3) := by decide +kernel
theorem dX0_tryMove_36 : decode cX0_tryMove 36 = .ok (.aload_n 0, 1) := by decide +kernel
theorem dX0_tryMove_37 : decode cX0_tryMove 37 = .ok (.aload_n 0, 1) := by decide +kernel
theorem dX0_tryMove_38 : decode cX0_tryMove 38 = .ok (.iload_n 2, 1) := by decide +kernel
theorem dX0_tryMove_39 : decode cX0_tryMove 39 = .ok (.invokevirtual 124, 3) := by decide +kernel
theorem dX0_tryMove_42 : decode cX0_tryMove 42 = .ok (.iload_n 3, 1) := by decide +kernel
theorem dX0_tryMove_43 : decode cX0_tryMove 43 = .ok (.invokevirtual 121, 3) := by decide +kernel
theorem dX0_tryMove_46 : decode cX0_tryMove 46 = .ok (.aload_n 0, 1) := by decide +kernel
theorem dX0_tryMove_47 : decode cX0_tryMove 47 = .ok (.iload_n 3, 1) := by decide +kernel
theorem dX0_tryMove_48 : decode cX0_tryMove 48 = .ok (.putfield 38, 3) := by decide +kernel
theorem dX0_tryMove_51 : decode cX0_tryMove 51 = .ok (.aload_n 0, 1) := by decide +kernel
theorem dX0_tryMove_52 : decode cX0_tryMove 52 = .ok (.aload_n 0, 1) := by decide +kernel
theorem dX0_tryMove_53 : decode cX0_tryMove 53 = .ok (.getfield 35, 3) := by decide +kernel
theorem dX0_tryMove_56 : decode cX0_tryMove 56 = .ok (.putfield 25, 3) := by decide +kernel
theorem dX0_tryMove_59 : decode cX0_tryMove 59 = .ok (.aload_n 0, 1) := by decide +kernel
theorem dX0_tryMove_60 : decode cX0_tryMove 60 = .ok (.aload_n 0, 1) := by decide +kernel
theorem dX0_tryMove_61 : decode cX0_tryMove 61 = .ok (.aload_n 0, 1) := by decide +kernel
theorem dX0_tryMove_62 : decode cX0_tryMove 62 = .ok (.getfield 35, 3) := by decide +kernel
theorem dX0_tryMove_65 : decode cX0_tryMove 65 = .ok (.invokevirtual 127, 3) := by decide +kernel
theorem dX0_tryMove_68 : decode cX0_tryMove 68 = .ok (.putfield 35, 3) := by decide +kernel
theorem dX0_tryMove_71 : decode cX0_tryMove 71 = .ok (.return_, 1) := by decide +kernel
theorem dX0_takeBack_0 : decode cX0_takeBack 0 = .ok (.aload_n 0, 1) := by decide +kernel
theorem dX0_takeBack_1 : decode cX0_takeBack 1 = .ok (.iload_n 1, 1) := by decide +kernel
theorem dX0_takeBack_2 : decode cX0_takeBack 2 = .ok (.iload_n 2, 1) := by decide +kernel
theorem dX0_takeBack_3 : decode cX0_takeBack 3 = .ok (.invokestatic 95, 3) := by decide +kernel
theorem dX0_takeBack_6 : decode cX0_takeBack 6 = .ok (.invokevirtual 124, 3) := by decide +kernel
theorem dX0_takeBack_9 : decode cX0_takeBack 9 = .ok (.istore 6, 2) := by decide +kernel
theorem dX0_takeBack_11 : decode cX0_takeBack 11 = .ok (.iload_n 1, 1) := by decide +kernel
theorem dX0_takeBack_12 : decode cX0_takeBack 12 = .ok (.bipush 6, 2) := by decide +kernel
theorem dX0_takeBack_14 : decode cX0_takeBack 14 = .ok (.if_icmp .ge 13, 3) := by decide +kernel
theorem dX0_takeBack_17 : decode cX0_takeBack 17 = .ok (.aload_n 0, 1) := by decide +kernel
theorem dX0_takeBack_18 : decode cX0_takeBack 18 = .ok (.iload_n 3, 1) := by decide +kernel
theorem dX0_takeBack_19 : decode cX0_takeBack 19 = .ok (.iload_n 1, 1) := by decide +kernel
theorem dX0_takeBack_20 : decode cX0_takeBack 20 = .ok (.iconst 1, 1) := by decide +kernel
theorem dX0_takeBack_21 : decode cX0_takeBack 21 = .ok (.invokevirtual 117, 3) := by decide +kernel
theorem dX0_takeBack_24 : decode cX0_takeBack 24 = .ok (.goto 10, 3) := by decide +kernel
theorem dX0_takeBack_27 : decode cX0_takeBack 27 = .ok (.aload_n 0, 1) := by decide +kernel
theorem dX0_takeBack_28 : decode cX0_takeBack 28 = .ok (.iload 6, 2) := by decide +kernel
theorem dX0_takeBack_30 : decode cX0_takeBack 30 = .ok (.iload_n 2, 1) := by decide +kernel
theorem dX0_takeBack_31 : decode cX0_takeBack 31 = .ok (.invokevirtual 121, 3) := by decide +kernel
theorem dX0_takeBack_34 : decode cX0_takeBack 34 = .ok (.aload_n 0, 1) := by decide +kernel
theorem dX0_takeBack_35 : decode cX0_takeBack 35 = .ok (.iload_n 3, 1) := by decide +kernel
theorem dX0_takeBack_36 : decode cX0_takeBack 36 = .ok (.putfield 35, 3) := by decide +kernel
theorem dX0_takeBack_39 : decode cX0_takeBack 39 = .ok (.aload_n 0, 1) := by decide +kernel
theorem dX0_takeBack_40 : decode cX0_takeBack 40 = .ok (.iload 4, 2) := by decide +kernel
theorem dX0_takeBack_42 : decode cX0_takeBack 42 = .ok (.putfield 25, 3) := by decide +kernel
theorem dX0_takeBack_45 : decode cX0_takeBack 45 = .ok (.aload_n 0, 1) := by decide +kernel
theorem dX0_takeBack_46 : decode cX0_takeBack 46 = .ok (.iload 5, 2) := by decide +kernel
theorem dX0_takeBack_48 : decode cX0_takeBack 48 = .ok (.putfield 38, 3) := by decide +kernel
theorem dX0_takeBack_51 : decode cX0_takeBack 51 = .ok (.return_, 1) := by decide +kernel
theorem dX0_sideBehind_0 : decode cX0_sideBehind 0 = .ok (.iconst 1, 1) := by decide +kernel
theorem dX0_sideBehind_1 : decode cX0_sideBehind 1 = .ok (.iload_n 1, 1) := by decide +kernel
theorem dX0_sideBehind_2 : decode cX0_sideBehind 2 = .ok (.isub, 1) := by decide +kernel
theorem dX0_sideBehind_3 : decode cX0_sideBehind 3 = .ok (.istore_n 2, 1) := by decide +kernel
theorem dX0_sideBehind_4 : decode cX0_sideBehind 4 = .ok (.aload_n 0, 1) := by decide +kernel
theorem dX0_sideBehind_5 : decode cX0_sideBehind 5 = .ok (.getfield 19, 3) := by decide +kernel
theorem dX0_sideBehind_8 : decode cX0_sideBehind 8 = .ok (.iconst 2, 1) := by decide +kernel
theorem dX0_sideBehind_9 : decode cX0_sideBehind 9 = .ok (.iaload, 1) := by decide +kernel
theorem dX0_sideBehind_10 : decode cX0_sideBehind 10 = .ok (.ifCond .ne 16, 3) := by decide +kernel
theorem dX0_sideBehind_13 : decode cX0_sideBehind 13 = .ok (.aload_n 0, 1) := by decide +kernel
theorem dX0_sideBehind_14 : decode cX0_sideBehind 14 = .ok (.iload_n 2, 1) := by decide +kernel
theorem dX0_sideBehind_15 : decode cX0_sideBehind 15 = .ok (.iconst 0, 1) := by decide +kernel
theorem dX0_sideBehind_16 : decode cX0_sideBehind 16 = .ok (.invokevirtual 85, 3) := by decide +kernel
theorem dX0_sideBehind_19 : decode cX0_sideBehind 19 = .ok (.ifCond .ne 7, 3) := by decide +kernel
theorem dX0_sideBehind_22 : decode cX0_sideBehind 22 = .ok (.iconst 1, 1) := by decide +kernel
theorem dX0_sideBehind_23 : decode cX0_sideBehind 23 = .ok (.goto 4, 3) := by decide +kernel
theorem dX0_sideBehind_26 : decode cX0_sideBehind 26 = .ok (.iconst 0, 1) := by decide +kernel
theorem dX0_sideBehind_27 : decode cX0_sideBehind 27 = .ok (.istore_n 3, 1) := by decide +kernel
theorem dX0_sideBehind_28 : decode cX0_sideBehind 28 = .ok (.iload_n 3, 1) := by decide +kernel
theorem dX0_sideBehind_29 : decode cX0_sideBehind 29 = .ok (.ifCond .eq 16, 3) := by decide +kernel
theorem dX0_sideBehind_32 : decode cX0_sideBehind 32 = .ok (.aload_n 0, 1) := by decide +kernel
theorem dX0_sideBehind_33 : decode cX0_sideBehind 33 = .ok (.iload_n 1, 1) := by decide +kernel
theorem dX0_sideBehind_34 : decode cX0_sideBehind 34 = .ok (.iconst 0, 1) := by decide +kernel
theorem dX0_sideBehind_35 : decode cX0_sideBehind 35 = .ok (.invokevirtual 85, 3) := by decide +kernel
theorem dX0_sideBehind_38 : decode cX0_sideBehind 38 = .ok (.ifCond .le 7, 3) := by decide +kernel
theorem dX0_sideBehind_41 : decode cX0_sideBehind 41 = .ok (.iload_n 1, 1) := by decide +kernel
theorem dX0_sideBehind_42 : decode cX0_sideBehind 42 = .ok (.goto 4, 3) := by decide +kernel
theorem dX0_sideBehind_45 : decode cX0_sideBehind 45 = .ok (.iload_n 2, 1) := by decide +kernel
theorem dX0_sideBehind_46 : decode cX0_sideBehind 46 = .ok (.ireturn, 1) := by decide +kernel
theorem dX0_rowOf_0 : decode cX0_rowOf 0 = .ok (.iload_n 0, 1) := by decide +kernel
theorem dX0_rowOf_1 : decode cX0_rowOf 1 = .ok (.bipush 40, 2) := by decide +kernel
theorem dX0_rowOf_3 : decode cX0_rowOf 3 = .ok (.invokestatic 130, 3) := by decide +kernel
theorem dX0_rowOf_6 : decode cX0_rowOf 6 = .ok (.iconst 4, 1) := by decide +kernel
theorem dX0_rowOf_7 : decode cX0_rowOf 7 = .ok (.imul, 1) := by decide +kernel
theorem dX0_rowOf_8 : decode cX0_rowOf 8 = .ok (.ireturn, 1) := by decide +kernel
theorem dX0_isMoveKept_0 : decode cX0_isMoveKept 0 = .ok (.iload_n 1, 1) := by decide +kernel
theorem dX0_isMoveKept_1 : decode cX0_isMoveKept 1 = .ok (.ifCond .lt 21, 3) := by decide +kernel
theorem dX0_isMoveKept_4 : decode cX0_isMoveKept 4 = .ok (.iload_n 1, 1) := by decide +kernel
theorem dX0_isMoveKept_5 : decode cX0_isMoveKept 5 = .ok (.bipush 40, 2) := by decide +kernel
theorem dX0_isMoveKept_7 : decode cX0_isMoveKept 7 = .ok (.if_icmp .ge 15, 3) := by decide +kernel
theorem dX0_isMoveKept_10 : decode cX0_isMoveKept 10 = .ok (.iload_n 1, 1) := by decide +kernel
theorem dX0_isMoveKept_11 : decode cX0_isMoveKept 11 = .ok (.aload_n 0, 1) := by decide +kernel
theorem dX0_isMoveKept_12 : decode cX0_isMoveKept 12 = .ok (.getfield 50, 3) := by decide +kernel
theorem dX0_isMoveKept_15 : decode cX0_isMoveKept 15 = .ok (.if_icmp .ge 7, 3) := by decide +kernel
theorem dX0_isMoveKept_18 : decode cX0_isMoveKept 18 = .ok (.iconst 1, 1) := by decide +kernel
theorem dX0_isMoveKept_19 : decode cX0_isMoveKept 19 = .ok (.goto 4, 3) := by decide +kernel
theorem dX0_isMoveKept_22 : decode cX0_isMoveKept 22 = .ok (.iconst 0, 1) := by decide +kernel
theorem dX0_isMoveKept_23 : decode cX0_isMoveKept 23 = .ok (.ireturn, 1) := by decide +kernel
theorem dX0_partOfMove_0 : decode cX0_partOfMove 0 = .ok (.aload_n 0, 1) := by decide +kernel
theorem dX0_partOfMove_1 : decode cX0_partOfMove 1 = .ok (.iload_n 1, 1) := by decide +kernel
theorem dX0_partOfMove_2 : decode cX0_partOfMove 2 = .ok (.invokevirtual 133, 3) := by decide +kernel
theorem dX0_partOfMove_5 : decode cX0_partOfMove 5 = .ok (.ifCond .eq 12, 3) := by decide +kernel
theorem dX0_partOfMove_8 : decode cX0_partOfMove 8 = .ok (.iload_n 2, 1) := by decide +kernel
theorem dX0_partOfMove_9 : decode cX0_partOfMove 9 = .ok (.ifCond .lt 8, 3) := by decide +kernel
theorem dX0_partOfMove_12 : decode cX0_partOfMove 12 = .ok (.iload_n 2, 1) := by decide +kernel
theorem dX0_partOfMove_13 : decode cX0_partOfMove 13 = .ok (.iconst 4, 1) := by decide +kernel
theorem dX0_partOfMove_14 : decode cX0_partOfMove 14 = .ok (.if_icmp .lt 5, 3) := by decide +kernel
theorem dX0_partOfMove_17 : decode cX0_partOfMove 17 = .ok (.iconst 0, 1) := by decide +kernel
theorem dX0_partOfMove_18 : decode cX0_partOfMove 18 = .ok (.ireturn, 1) := by decide +kernel
theorem dX0_partOfMove_19 : decode cX0_partOfMove 19 = .ok (.aload_n 0, 1) := by decide +kernel
theorem dX0_partOfMove_20 : decode cX0_partOfMove 20 = .ok (.getfield 22, 3) := by decide +kernel
theorem dX0_partOfMove_23 : decode cX0_partOfMove 23 = .ok (.aload_n 0, 1) := by decide +kernel
theorem dX0_partOfMove_24 : decode cX0_partOfMove 24 = .ok (.getfield 50, 3) := by decide +kernel
theorem dX0_partOfMove_27 : decode cX0_partOfMove 27 = .ok (.iconst 1, 1) := by decide +kernel
theorem dX0_partOfMove_28 : decode cX0_partOfMove 28 = .ok (.isub, 1) := by decide +kernel
theorem dX0_partOfMove_29 : decode cX0_partOfMove 29 = .ok (.iload_n 1, 1) := by decide +kernel
theorem dX0_partOfMove_30 : decode cX0_partOfMove 30 = .ok (.isub, 1) := by decide +kernel
theorem dX0_partOfMove_31 : decode cX0_partOfMove 31 = .ok (.invokestatic 104, 3) := by decide +kernel
theorem dX0_partOfMove_34 : decode cX0_partOfMove 34 = .ok (.iload_n 2, 1) := by decide +kernel
theorem dX0_partOfMove_35 : decode cX0_partOfMove 35 = .ok (.iadd, 1) := by decide +kernel
theorem dX0_partOfMove_36 : decode cX0_partOfMove 36 = .ok (.iaload, 1) := by decide +kernel
theorem dX0_partOfMove_37 : decode cX0_partOfMove 37 = .ok (.ireturn, 1) := by decide +kernel
theorem dX0_possibleMoves_0 : decode cX0_possibleMoves 0 = .ok (.iconst 0, 1) := by decide +kernel
theorem dX0_possibleMoves_1 : decode cX0_possibleMoves 1 = .ok (.istore_n 1, 1) := by decide +kernel
theorem dX0_possibleMoves_2 : decode cX0_possibleMoves 2 = .ok (.iconst 0, 1) := by decide +kernel
theorem dX0_possibleMoves_3 : decode cX0_possibleMoves 3 = .ok (.istore_n 2, 1) := by decide +kernel
theorem dX0_possibleMoves_4 : decode cX0_possibleMoves 4 = .ok (.iload_n 2, 1) := by decide +kernel
theorem dX0_possibleMoves_5 : decode cX0_possibleMoves 5 = .ok (.bipush 84, 2) := by decide +kernel
theorem dX0_possibleMoves_7 : decode cX0_possibleMoves 7 = .ok (.if_icmp .ge 27, 3) := by decide +kernel
theorem dX0_possibleMoves_10 : decode cX0_possibleMoves 10 = .ok (.aload_n 0, 1) := by decide +kernel
theorem dX0_possibleMoves_11 : decode cX0_possibleMoves 11 = .ok (.iload_n 2, 1) := by decide +kernel
theorem dX0_possibleMoves_12 : decode cX0_possibleMoves 12 = .ok (.invokestatic 136, 3) := by decide +kernel
theorem dX0_possibleMoves_15 : decode cX0_possibleMoves 15 = .ok (.iload_n 2, 1) := by decide +kernel
theorem dX0_possibleMoves_16 : decode cX0_possibleMoves 16 = .ok (.invokestatic 139, 3) := by decide +kernel
theorem dX0_possibleMoves_19 : decode cX0_possibleMoves 19 = .ok (.invokevirtual 142, 3) := by decide +kernel
theorem dX0_possibleMoves_22 : decode cX0_possibleMoves 22 = .ok (.ifCond .ne 6, 3) := by decide +kernel
theorem dX0_possibleMoves_25 : decode cX0_possibleMoves 25 = .ok (.iinc 1 1, 3) := by decide +kernel
theorem dX0_possibleMoves_28 : decode cX0_possibleMoves 28 = .ok (.iinc 2 1, 3) := by decide +kernel
theorem dX0_possibleMoves_31 : decode cX0_possibleMoves 31 = .ok (.goto (-27), 3) := by decide +kernel
theorem dX0_possibleMoves_34 : decode cX0_possibleMoves 34 = .ok (.iload_n 1, 1) := by decide +kernel
theorem dX0_possibleMoves_35 : decode cX0_possibleMoves 35 = .ok (.ireturn, 1) := by decide +kernel
theorem dX0_safeMoves_0 : decode cX0_safeMoves 0 = .ok (.iconst 0, 1) := by decide +kernel
theorem dX0_safeMoves_1 : decode cX0_safeMoves 1 = .ok (.istore_n 1, 1) := by decide +kernel
theorem dX0_safeMoves_2 : decode cX0_safeMoves 2 = .ok (.iconst 0, 1) := by decide +kernel
theorem dX0_safeMoves_3 : decode cX0_safeMoves 3 = .ok (.istore_n 2, 1) := by decide +kernel
theorem dX0_safeMoves_4 : decode cX0_safeMoves 4 = .ok (.iload_n 2, 1) := by decide +kernel
theorem dX0_safeMoves_5 : decode cX0_safeMoves 5 = .ok (.bipush 84, 2) := by decide +kernel
theorem dX0_safeMoves_7 : decode cX0_safeMoves 7 = .ok (.if_icmp .ge 57, 3) := by decide +kernel
theorem dX0_safeMoves_10 : decode cX0_safeMoves 10 = .ok (.iload_n 2, 1) := by decide +kernel
theorem dX0_safeMoves_11 : decode cX0_safeMoves 11 = .ok (.invokestatic 136, 3) := by decide +kernel
theorem dX0_safeMoves_14 : decode cX0_safeMoves 14 = .ok (.istore_n 3, 1) := by decide +kernel
theorem dX0_safeMoves_15 : decode cX0_safeMoves 15 = .ok (.iload_n 2, 1) := by decide +kernel
theorem dX0_safeMoves_16 : decode cX0_safeMoves 16 = .ok (.invokestatic 139, 3) := by decide +kernel
theorem dX0_safeMoves_19 : decode cX0_safeMoves 19 = .ok (.istore 4, 2) := by decide +kernel
theorem dX0_safeMoves_21 : decode cX0_safeMoves 21 = .ok (.aload_n 0, 1) := by decide +kernel
theorem dX0_safeMoves_22 : decode cX0_safeMoves 22 = .ok (.iload_n 3, 1) := by decide +kernel
theorem dX0_safeMoves_23 : decode cX0_safeMoves 23 = .ok (.iload 4, 2) := by decide +kernel
theorem dX0_safeMoves_25 : decode cX0_safeMoves 25 = .ok (.invokevirtual 142, 3) := by decide +kernel
theorem dX0_safeMoves_28 : decode cX0_safeMoves 28 = .ok (.ifCond .ne 30, 3) := by decide +kernel
theorem dX0_safeMoves_31 : decode cX0_safeMoves 31 = .ok (.aload_n 0, 1) := by decide +kernel
theorem dX0_safeMoves_32 : decode cX0_safeMoves 32 = .ok (.getfield 41, 3) := by decide +kernel
theorem dX0_safeMoves_35 : decode cX0_safeMoves 35 = .ok (.aload_n 0, 1) := by decide +kernel
theorem dX0_safeMoves_36 : decode cX0_safeMoves 36 = .ok (.iload_n 3, 1) := by decide +kernel
theorem dX0_safeMoves_37 : decode cX0_safeMoves 37 = .ok (.iload 4, 2) := by decide +kernel
theorem dX0_safeMoves_39 : decode cX0_safeMoves 39 = .ok (.invokevirtual 107, 3) := by decide +kernel
theorem dX0_safeMoves_42 : decode cX0_safeMoves 42 = .ok (.iadd, 1) := by decide +kernel
theorem dX0_safeMoves_43 : decode cX0_safeMoves 43 = .ok (.invokestatic 80, 3) := by decide +kernel
theorem dX0_safeMoves_46 : decode cX0_safeMoves 46 = .ok (.aload_n 0, 1) := by decide +kernel
theorem dX0_safeMoves_47 : decode cX0_safeMoves 47 = .ok (.getfield 19, 3) := by decide +kernel
theorem dX0_safeMoves_50 : decode cX0_safeMoves 50 = .ok (.iconst 1, 1) := by decide +kernel
theorem dX0_safeMoves_51 : decode cX0_safeMoves 51 = .ok (.iaload, 1) := by decide +kernel
theorem dX0_safeMoves_52 : decode cX0_safeMoves 52 = .ok (.if_icmp .gt 6, 3) := by decide +kernel
theorem dX0_safeMoves_55 : decode cX0_safeMoves 55 = .ok (.iinc 1 1, 3) := by decide +kernel
theorem dX0_safeMoves_58 : decode cX0_safeMoves 58 = .ok (.iinc 2 1, 3) := by decide +kernel
theorem dX0_safeMoves_61 : decode cX0_safeMoves 61 = .ok (.goto (-57), 3) := by decide +kernel
theorem dX0_safeMoves_64 : decode cX0_safeMoves 64 = .ok (.iload_n 1, 1) := by decide +kernel
theorem dX0_safeMoves_65 : decode cX0_safeMoves 65 = .ok (.ireturn, 1) := by decide +kernel
theorem dX0_side_0 : decode cX0_side 0 = .ok (.aload_n 0, 1) := by decide +kernel
theorem dX0_side_1 : decode cX0_side 1 = .ok (.getfield 35, 3) := by decide +kernel
theorem dX0_side_4 : decode cX0_side 4 = .ok (.ireturn, 1) := by decide +kernel
theorem dX0_latestSide_0 : decode cX0_latestSide 0 = .ok (.aload_n 0, 1) := by decide +kernel
theorem dX0_latestSide_1 : decode cX0_latestSide 1 = .ok (.getfield 25, 3) := by decide +kernel
theorem dX0_latestSide_4 : decode cX0_latestSide 4 = .ok (.ireturn, 1) := by decide +kernel
theorem dX0_movedTo_0 : decode cX0_movedTo 0 = .ok (.aload_n 0, 1) := by decide +kernel
theorem dX0_movedTo_1 : decode cX0_movedTo 1 = .ok (.getfield 38, 3) := by decide +kernel
theorem dX0_movedTo_4 : decode cX0_movedTo 4 = .ok (.ireturn, 1) := by decide +kernel
theorem dX0_turn_0 : decode cX0_turn 0 = .ok (.aload_n 0, 1) := by decide +kernel
theorem dX0_turn_1 : decode cX0_turn 1 = .ok (.getfield 41, 3) := by decide +kernel
theorem dX0_turn_4 : decode cX0_turn 4 = .ok (.ireturn, 1) := by decide +kernel
theorem dX0_toldByMoves_0 : decode cX0_toldByMoves 0 = .ok (.aload_n 0, 1) := by decide +kernel
theorem dX0_toldByMoves_1 : decode cX0_toldByMoves 1 = .ok (.getfield 44, 3) := by decide +kernel
theorem dX0_toldByMoves_4 : decode cX0_toldByMoves 4 = .ok (.ireturn, 1) := by decide +kernel
theorem dX0_greatestTurn_0 : decode cX0_greatestTurn 0 = .ok (.aload_n 0, 1) := by decide +kernel
theorem dX0_greatestTurn_1 : decode cX0_greatestTurn 1 = .ok (.getfield 47, 3) := by decide +kernel
theorem dX0_greatestTurn_4 : decode cX0_greatestTurn 4 = .ok (.ireturn, 1) := by decide +kernel
theorem dX0_moveCount_0 : decode cX0_moveCount 0 = .ok (.aload_n 0, 1) := by decide +kernel
theorem dX0_moveCount_1 : decode cX0_moveCount 1 = .ok (.getfield 50, 3) := by decide +kernel
theorem dX0_moveCount_4 : decode cX0_moveCount 4 = .ok (.ireturn, 1) := by decide +kernel
theorem dX1_init_0 : decode cX1_init 0 = .ok (.aload_n 0, 1) := by decide +kernel
theorem dX1_init_1 : decode cX1_init 1 = .ok (.invokespecial 1, 3) := by decide +kernel
theorem dX1_init_4 : decode cX1_init 4 = .ok (.aload_n 0, 1) := by decide +kernel
theorem dX1_init_5 : decode cX1_init 5 = .ok (.iconst 4, 1) := by decide +kernel
theorem dX1_init_6 : decode cX1_init 6 = .ok (.anewarray 9, 3) := by decide +kernel
theorem dX1_init_9 : decode cX1_init 9 = .ok (.putfield 11, 3) := by decide +kernel
theorem dX1_init_12 : decode cX1_init 12 = .ok (.iconst 0, 1) := by decide +kernel
theorem dX1_init_13 : decode cX1_init 13 = .ok (.istore_n 1, 1) := by decide +kernel
theorem dX1_init_14 : decode cX1_init 14 = .ok (.iload_n 1, 1) := by decide +kernel
theorem dX1_init_15 : decode cX1_init 15 = .ok (.aload_n 0, 1) := by decide +kernel
theorem dX1_init_16 : decode cX1_init 16 = .ok (.getfield 11, 3) := by decide +kernel
theorem dX1_init_19 : decode cX1_init 19 = .ok (.arraylength, 1) := by decide +kernel
theorem dX1_init_20 : decode cX1_init 20 = .ok (.if_icmp .ge 22, 3) := by decide +kernel
theorem dX1_init_23 : decode cX1_init 23 = .ok (.aload_n 0, 1) := by decide +kernel
theorem dX1_init_24 : decode cX1_init 24 = .ok (.getfield 11, 3) := by decide +kernel
theorem dX1_init_27 : decode cX1_init 27 = .ok (.iload_n 1, 1) := by decide +kernel
theorem dX1_init_28 : decode cX1_init 28 = .ok (.new 9, 3) := by decide +kernel
theorem dX1_init_31 : decode cX1_init 31 = .ok (.dup, 1) := by decide +kernel
theorem dX1_init_32 : decode cX1_init 32 = .ok (.invokespecial 15, 3) := by decide +kernel
theorem dX1_init_35 : decode cX1_init 35 = .ok (.aastore, 1) := by decide +kernel
theorem dX1_init_36 : decode cX1_init 36 = .ok (.iinc 1 1, 3) := by decide +kernel
theorem dX1_init_39 : decode cX1_init 39 = .ok (.goto (-25), 3) := by decide +kernel
theorem dX1_init_42 : decode cX1_init 42 = .ok (.return_, 1) := by decide +kernel
theorem dX1_size_0 : decode cX1_size 0 = .ok (.aload_n 0, 1) := by decide +kernel
theorem dX1_size_1 : decode cX1_size 1 = .ok (.getfield 16, 3) := by decide +kernel
theorem dX1_size_4 : decode cX1_size 4 = .ok (.ireturn, 1) := by decide +kernel
theorem dX1_remember_0 : decode cX1_remember 0 = .ok (.aload_n 0, 1) := by decide +kernel
theorem dX1_remember_1 : decode cX1_remember 1 = .ok (.getfield 16, 3) := by decide +kernel
theorem dX1_remember_4 : decode cX1_remember 4 = .ok (.iconst 4, 1) := by decide +kernel
theorem dX1_remember_5 : decode cX1_remember 5 = .ok (.if_icmp .lt 7, 3) := by decide +kernel
theorem dX1_remember_8 : decode cX1_remember 8 = .ok (.aload_n 0, 1) := by decide +kernel
theorem dX1_remember_9 : decode cX1_remember 9 = .ok (.invokevirtual 20, 3) := by decide +kernel
theorem dX1_remember_12 : decode cX1_remember 12 = .ok (.aload_n 0, 1) := by decide +kernel
theorem dX1_remember_13 : decode cX1_remember 13 = .ok (.getfield 16, 3) := by decide +kernel
theorem dX1_remember_16 : decode cX1_remember 16 = .ok (.ifCond .lt 27, 3) := by decide +kernel
theorem dX1_remember_19 : decode cX1_remember 19 = .ok (.aload_n 0, 1) := by decide +kernel
theorem dX1_remember_20 : decode cX1_remember 20 = .ok (.getfield 16, 3) := by decide +kernel
theorem dX1_remember_23 : decode cX1_remember 23 = .ok (.aload_n 0, 1) := by decide +kernel
theorem dX1_remember_24 : decode cX1_remember 24 = .ok (.getfield 11, 3) := by decide +kernel
theorem dX1_remember_27 : decode cX1_remember 27 = .ok (.arraylength, 1) := by decide +kernel
theorem dX1_remember_28 : decode cX1_remember 28 = .ok (.if_icmp .ge 15, 3) := by decide +kernel
theorem dX1_remember_31 : decode cX1_remember 31 = .ok (.aload_n 0, 1) := by decide +kernel
theorem dX1_remember_32 : decode cX1_remember 32 = .ok (.getfield 11, 3) := by decide +kernel
theorem dX1_remember_35 : decode cX1_remember 35 = .ok (.aload_n 0, 1) := by decide +kernel
theorem dX1_remember_36 : decode cX1_remember 36 = .ok (.getfield 16, 3) := by decide +kernel
theorem dX1_remember_39 : decode cX1_remember 39 = .ok (.aaload, 1) := by decide +kernel
theorem dX1_remember_40 : decode cX1_remember 40 = .ok (.goto 4, 3) := by decide +kernel
theorem dX1_remember_43 : decode cX1_remember 43 = .ok (.aconst_null, 1) := by decide +kernel
theorem dX1_remember_44 : decode cX1_remember 44 = .ok (.astore_n 2, 1) := by decide +kernel
theorem dX1_remember_45 : decode cX1_remember 45 = .ok (.aload_n 2, 1) := by decide +kernel
theorem dX1_remember_46 : decode cX1_remember 46 = .ok (.ifnonnull 4, 3) := by decide +kernel
theorem dX1_remember_49 : decode cX1_remember 49 = .ok (.return_, 1) := by decide +kernel
theorem dX1_remember_50 : decode cX1_remember 50 = .ok (.aload_n 2, 1) := by decide +kernel
theorem dX1_remember_51 : decode cX1_remember 51 = .ok (.aload_n 1, 1) := by decide +kernel
theorem dX1_remember_52 : decode cX1_remember 52 = .ok (.invokevirtual 23, 3) := by decide +kernel
theorem dX1_remember_55 : decode cX1_remember 55 = .ok (.aload_n 0, 1) := by decide +kernel
theorem dX1_remember_56 : decode cX1_remember 56 = .ok (.dup, 1) := by decide +kernel
theorem dX1_remember_57 : decode cX1_remember 57 = .ok (.getfield 16, 3) := by decide +kernel
theorem dX1_remember_60 : decode cX1_remember 60 = .ok (.iconst 1, 1) := by decide +kernel
theorem dX1_remember_61 : decode cX1_remember 61 = .ok (.iadd, 1) := by decide +kernel
theorem dX1_remember_62 : decode cX1_remember 62 = .ok (.putfield 16, 3) := by decide +kernel
theorem dX1_remember_65 : decode cX1_remember 65 = .ok (.return_, 1) := by decide +kernel
theorem dX1_dropOldest_0 : decode cX1_dropOldest 0 = .ok (.aload_n 0, 1) := by decide +kernel
theorem dX1_dropOldest_1 : decode cX1_dropOldest 1 = .ok (.getfield 11, 3) := by decide +kernel
theorem dX1_dropOldest_4 : decode cX1_dropOldest 4 = .ok (.iconst 0, 1) := by decide +kernel
theorem dX1_dropOldest_5 : decode cX1_dropOldest 5 = .ok (.aaload, 1) := by decide +kernel
theorem dX1_dropOldest_6 : decode cX1_dropOldest 6 = .ok (.astore_n 1, 1) := by decide +kernel
theorem dX1_dropOldest_7 : decode cX1_dropOldest 7 = .ok (.iconst 1, 1) := by decide +kernel
theorem dX1_dropOldest_8 : decode cX1_dropOldest 8 = .ok (.istore_n 2, 1) := by decide +kernel
theorem dX1_dropOldest_9 : decode cX1_dropOldest 9 = .ok (.iload_n 2, 1) := by decide +kernel
theorem dX1_dropOldest_10 : decode cX1_dropOldest 10 = .ok (.aload_n 0, 1) := by decide +kernel
theorem dX1_dropOldest_11 : decode cX1_dropOldest 11 = .ok (.getfield 11, 3) := by decide +kernel
theorem dX1_dropOldest_14 : decode cX1_dropOldest 14 = .ok (.arraylength, 1) := by decide +kernel
theorem dX1_dropOldest_15 : decode cX1_dropOldest 15 = .ok (.if_icmp .ge 23, 3) := by decide +kernel
theorem dX1_dropOldest_18 : decode cX1_dropOldest 18 = .ok (.aload_n 0, 1) := by decide +kernel
theorem dX1_dropOldest_19 : decode cX1_dropOldest 19 = .ok (.getfield 11, 3) := by decide +kernel
theorem dX1_dropOldest_22 : decode cX1_dropOldest 22 = .ok (.iload_n 2, 1) := by decide +kernel
theorem dX1_dropOldest_23 : decode cX1_dropOldest 23 = .ok (.iconst 1, 1) := by decide +kernel
theorem dX1_dropOldest_24 : decode cX1_dropOldest 24 = .ok (.isub, 1) := by decide +kernel
theorem dX1_dropOldest_25 : decode cX1_dropOldest 25 = .ok (.aload_n 0, 1) := by decide +kernel
theorem dX1_dropOldest_26 : decode cX1_dropOldest 26 = .ok (.getfield 11, 3) := by decide +kernel
theorem dX1_dropOldest_29 : decode cX1_dropOldest 29 = .ok (.iload_n 2, 1) := by decide +kernel
theorem dX1_dropOldest_30 : decode cX1_dropOldest 30 = .ok (.aaload, 1) := by decide +kernel
theorem dX1_dropOldest_31 : decode cX1_dropOldest 31 = .ok (.aastore, 1) := by decide +kernel
theorem dX1_dropOldest_32 : decode cX1_dropOldest 32 = .ok (.iinc 2 1, 3) := by decide +kernel
theorem dX1_dropOldest_35 : decode cX1_dropOldest 35 = .ok (.goto (-26), 3) := by decide +kernel
theorem dX1_dropOldest_38 : decode cX1_dropOldest 38 = .ok (.aload_n 0, 1) := by decide +kernel
theorem dX1_dropOldest_39 : decode cX1_dropOldest 39 = .ok (.getfield 11, 3) := by decide +kernel
theorem dX1_dropOldest_42 : decode cX1_dropOldest 42 = .ok (.iconst 3, 1) := by decide +kernel
theorem dX1_dropOldest_43 : decode cX1_dropOldest 43 = .ok (.aload_n 1, 1) := by decide +kernel
theorem dX1_dropOldest_44 : decode cX1_dropOldest 44 = .ok (.aastore, 1) := by decide +kernel
theorem dX1_dropOldest_45 : decode cX1_dropOldest 45 = .ok (.aload_n 0, 1) := by decide +kernel
theorem dX1_dropOldest_46 : decode cX1_dropOldest 46 = .ok (.iconst 3, 1) := by decide +kernel
theorem dX1_dropOldest_47 : decode cX1_dropOldest 47 = .ok (.putfield 16, 3) := by decide +kernel
theorem dX1_dropOldest_50 : decode cX1_dropOldest 50 = .ok (.return_, 1) := by decide +kernel
theorem dX2_init_0 : decode cX2_init 0 = .ok (.aload_n 0, 1) := by decide +kernel
theorem dX2_init_1 : decode cX2_init 1 = .ok (.invokespecial 1, 3) := by decide +kernel
theorem dX2_init_4 : decode cX2_init 4 = .ok (.aload_n 0, 1) := by decide +kernel
theorem dX2_init_5 : decode cX2_init 5 = .ok (.bipush 60, 2) := by decide +kernel
theorem dX2_init_7 : decode cX2_init 7 = .ok (.newarray .char, 2) := by decide +kernel
theorem dX2_init_9 : decode cX2_init 9 = .ok (.putfield 9, 3) := by decide +kernel
theorem dX2_init_12 : decode cX2_init 12 = .ok (.aload_n 0, 1) := by decide +kernel
theorem dX2_init_13 : decode cX2_init 13 = .ok (.bipush 20, 2) := by decide +kernel
theorem dX2_init_15 : decode cX2_init 15 = .ok (.newarray .int, 2) := by decide +kernel
theorem dX2_init_17 : decode cX2_init 17 = .ok (.putfield 13, 3) := by decide +kernel
theorem dX2_init_20 : decode cX2_init 20 = .ok (.aload_n 0, 1) := by decide +kernel
theorem dX2_init_21 : decode cX2_init 21 = .ok (.bipush 20, 2) := by decide +kernel
theorem dX2_init_23 : decode cX2_init 23 = .ok (.newarray .int, 2) := by decide +kernel
theorem dX2_init_25 : decode cX2_init 25 = .ok (.putfield 17, 3) := by decide +kernel
theorem dX2_init_28 : decode cX2_init 28 = .ok (.return_, 1) := by decide +kernel
theorem dX2_length_0 : decode cX2_length 0 = .ok (.aload_n 0, 1) := by decide +kernel
theorem dX2_length_1 : decode cX2_length 1 = .ok (.getfield 20, 3) := by decide +kernel
theorem dX2_length_4 : decode cX2_length 4 = .ok (.ireturn, 1) := by decide +kernel
theorem dX3_lookAhead_0 : decode cX3_lookAhead 0 = .ok (.aload_n 0, 1) := by decide +kernel
theorem dX3_lookAhead_1 : decode cX3_lookAhead 1 = .ok (.iload_n 1, 1) := by decide +kernel
theorem dX3_lookAhead_2 : decode cX3_lookAhead 2 = .ok (.iconst (-1), 1) := by decide +kernel
theorem dX3_lookAhead_3 : decode cX3_lookAhead 3 = .ok (.iconst 1, 1) := by decide +kernel
theorem dX3_lookAhead_4 : decode cX3_lookAhead 4 = .ok (.invokestatic 7, 3) := by decide +kernel
theorem dX3_lookAhead_7 : decode cX3_lookAhead 7 = .ok (.ireturn, 1) := by decide +kernel
theorem dX3_bestRank_0 : decode cX3_bestRank 0 = .ok (.aload_n 0, 1) := by decide +kernel
theorem dX3_bestRank_1 : decode cX3_bestRank 1 = .ok (.invokevirtual 13, 3) := by decide +kernel
theorem dX3_bestRank_4 : decode cX3_bestRank 4 = .ok (.ifCond .eq 5, 3) := by decide +kernel
theorem dX3_bestRank_7 : decode cX3_bestRank 7 = .ok (.iconst (-1), 1) := by decide +kernel
theorem dX3_bestRank_8 : decode cX3_bestRank 8 = .ok (.ireturn, 1) := by decide +kernel
theorem dX3_bestRank_9 : decode cX3_bestRank 9 = .ok (.iconst (-1), 1) := by decide +kernel
theorem dX3_bestRank_10 : decode cX3_bestRank 10 = .ok (.istore_n 2, 1) := by decide +kernel
theorem dX3_bestRank_11 : decode cX3_bestRank 11 = .ok (.bipush (-2), 2) := by decide +kernel
theorem dX3_bestRank_13 : decode cX3_bestRank 13 = .ok (.istore_n 3, 1) := by decide +kernel
theorem dX3_bestRank_14 : decode cX3_bestRank 14 = .ok (.iconst 0, 1) := by decide +kernel
theorem dX3_bestRank_15 : decode cX3_bestRank 15 = .ok (.istore 4, 2) := by decide +kernel
theorem dX3_bestRank_17 : decode cX3_bestRank 17 = .ok (.iconst 0, 1) := by decide +kernel
theorem dX3_bestRank_18 : decode cX3_bestRank 18 = .ok (.istore 5, 2) := by decide +kernel
theorem dX3_bestRank_20 : decode cX3_bestRank 20 = .ok (.iload 5, 2) := by decide +kernel
theorem dX3_bestRank_22 : decode cX3_bestRank 22 = .ok (.bipush 84, 2) := by decide +kernel
theorem dX3_bestRank_24 : decode cX3_bestRank 24 = .ok (.if_icmp .ge 119, 3) := by decide +kernel
theorem dX3_bestRank_27 : decode cX3_bestRank 27 = .ok (.iload 5, 2) := by decide +kernel
theorem dX3_bestRank_29 : decode cX3_bestRank 29 = .ok (.invokestatic 19, 3) := by decide +kernel
theorem dX3_bestRank_32 : decode cX3_bestRank 32 = .ok (.istore 6, 2) := by decide +kernel
theorem dX3_bestRank_34 : decode cX3_bestRank 34 = .ok (.iload 5, 2) := by decide +kernel
theorem dX3_bestRank_36 : decode cX3_bestRank 36 = .ok (.invokestatic 23, 3) := by decide +kernel
theorem dX3_bestRank_39 : decode cX3_bestRank 39 = .ok (.istore 7, 2) := by decide +kernel
theorem dX3_bestRank_41 : decode cX3_bestRank 41 = .ok (.aload_n 0, 1) := by decide +kernel
theorem dX3_bestRank_42 : decode cX3_bestRank 42 = .ok (.iload 6, 2) := by decide +kernel
theorem dX3_bestRank_44 : decode cX3_bestRank 44 = .ok (.iload 7, 2) := by decide +kernel
theorem dX3_bestRank_46 : decode cX3_bestRank 46 = .ok (.invokevirtual 26, 3) := by decide +kernel
theorem dX3_bestRank_49 : decode cX3_bestRank 49 = .ok (.ifCond .eq 6, 3) := by decide +kernel
theorem dX3_bestRank_52 : decode cX3_bestRank 52 = .ok (.goto 85, 3) := by decide +kernel
theorem dX3_bestRank_55 : decode cX3_bestRank 55 = .ok (.aload_n 0, 1) := by decide +kernel
theorem dX3_bestRank_56 : decode cX3_bestRank 56 = .ok (.invokevirtual 30, 3) := by decide +kernel
theorem dX3_bestRank_59 : decode cX3_bestRank 59 = .ok (.aload_n 0, 1) := by decide +kernel
theorem dX3_bestRank_60 : decode cX3_bestRank 60 = .ok (.iload 6, 2) := by decide +kernel
theorem dX3_bestRank_62 : decode cX3_bestRank 62 = .ok (.iload 7, 2) := by decide +kernel
theorem dX3_bestRank_64 : decode cX3_bestRank 64 = .ok (.invokevirtual 33, 3) := by decide +kernel
theorem dX3_bestRank_67 : decode cX3_bestRank 67 = .ok (.iadd, 1) := by decide +kernel
theorem dX3_bestRank_68 : decode cX3_bestRank 68 = .ok (.invokestatic 36, 3) := by decide +kernel
theorem dX3_bestRank_71 : decode cX3_bestRank 71 = .ok (.istore 8, 2) := by decide +kernel
theorem dX3_bestRank_73 : decode cX3_bestRank 73 = .ok (.iload_n 2, 1) := by decide +kernel
theorem dX3_bestRank_74 : decode cX3_bestRank 74 = .ok (.ifCond .lt 10, 3) := by decide +kernel
theorem dX3_bestRank_77 : decode cX3_bestRank 77 = .ok (.iload 8, 2) := by decide +kernel
theorem dX3_bestRank_79 : decode cX3_bestRank 79 = .ok (.iload 4, 2) := by decide +kernel
theorem dX3_bestRank_81 : decode cX3_bestRank 81 = .ok (.if_icmp .ge 7, 3) := by decide +kernel
theorem dX3_bestRank_84 : decode cX3_bestRank 84 = .ok (.iload_n 3, 1) := by decide +kernel
theorem dX3_bestRank_85 : decode cX3_bestRank 85 = .ok (.goto 6, 3) := by decide +kernel
theorem dX3_bestRank_88 : decode cX3_bestRank 88 = .ok (.iload_n 3, 1) := by decide +kernel
theorem dX3_bestRank_89 : decode cX3_bestRank 89 = .ok (.iconst 1, 1) := by decide +kernel
theorem dX3_bestRank_90 : decode cX3_bestRank 90 = .ok (.iadd, 1) := by decide +kernel
theorem dX3_bestRank_91 : decode cX3_bestRank 91 = .ok (.istore 9, 2) := by decide +kernel
theorem dX3_bestRank_93 : decode cX3_bestRank 93 = .ok (.iload 9, 2) := by decide +kernel
theorem dX3_bestRank_95 : decode cX3_bestRank 95 = .ok (.iconst 1, 1) := by decide +kernel
theorem dX3_bestRank_96 : decode cX3_bestRank 96 = .ok (.if_icmp .le 6, 3) := by decide +kernel
theorem dX3_bestRank_99 : decode cX3_bestRank 99 = .ok (.goto 38, 3) := by decide +kernel
theorem dX3_bestRank_102 : decode cX3_bestRank 102 = .ok (.aload_n 0, 1) := by decide +kernel
theorem dX3_bestRank_103 : decode cX3_bestRank 103 = .ok (.iload 6, 2) := by decide +kernel
theorem dX3_bestRank_105 : decode cX3_bestRank 105 = .ok (.iload 7, 2) := by decide +kernel
theorem dX3_bestRank_107 : decode cX3_bestRank 107 = .ok (.iload_n 1, 1) := by decide +kernel
theorem dX3_bestRank_108 : decode cX3_bestRank 108 = .ok (.iconst 1, 1) := by decide +kernel
theorem dX3_bestRank_109 : decode cX3_bestRank 109 = .ok (.isub, 1) := by decide +kernel
theorem dX3_bestRank_110 : decode cX3_bestRank 110 = .ok (.iload 9, 2) := by decide +kernel
theorem dX3_bestRank_112 : decode cX3_bestRank 112 = .ok (.iconst 1, 1) := by decide +kernel
theorem dX3_bestRank_113 : decode cX3_bestRank 113 = .ok (.isub, 1) := by decide +kernel
theorem dX3_bestRank_114 : decode cX3_bestRank 114 = .ok (.iconst 1, 1) := by decide +kernel
theorem dX3_bestRank_115 : decode cX3_bestRank 115 = .ok (.invokestatic 41, 3) := by decide +kernel
theorem dX3_bestRank_118 : decode cX3_bestRank 118 = .ok (.istore 10, 2) := by decide +kernel
theorem dX3_bestRank_120 : decode cX3_bestRank 120 = .ok (.iload 10, 2) := by decide +kernel
theorem dX3_bestRank_122 : decode cX3_bestRank 122 = .ok (.iload 9, 2) := by decide +kernel
theorem dX3_bestRank_124 : decode cX3_bestRank 124 = .ok (.if_icmp .lt 13, 3) := by decide +kernel
theorem dX3_bestRank_127 : decode cX3_bestRank 127 = .ok (.iload 5, 2) := by decide +kernel
theorem dX3_bestRank_129 : decode cX3_bestRank 129 = .ok (.istore_n 2, 1) := by decide +kernel
theorem dX3_bestRank_130 : decode cX3_bestRank 130 = .ok (.iload 10, 2) := by decide +kernel
theorem dX3_bestRank_132 : decode cX3_bestRank 132 = .ok (.istore_n 3, 1) := by decide +kernel
theorem dX3_bestRank_133 : decode cX3_bestRank 133 = .ok (.iload 8, 2) := by decide +kernel
theorem dX3_bestRank_135 : decode cX3_bestRank 135 = .ok (.istore 4, 2) := by decide +kernel
theorem dX3_bestRank_137 : decode cX3_bestRank 137 = .ok (.iinc 5 1, 3) := by decide +kernel
theorem dX3_bestRank_140 : decode cX3_bestRank 140 = .ok (.goto (-120), 3) := by decide +kernel
theorem dX3_bestRank_143 : decode cX3_bestRank 143 = .ok (.iload_n 2, 1) := by decide +kernel
theorem dX3_bestRank_144 : decode cX3_bestRank 144 = .ok (.ireturn, 1) := by decide +kernel
theorem dX3_ahead_0 : decode cX3_ahead 0 = .ok (.aload_n 0, 1) := by decide +kernel
theorem dX3_ahead_1 : decode cX3_ahead 1 = .ok (.invokevirtual 13, 3) := by decide +kernel
theorem dX3_ahead_4 : decode cX3_ahead 4 = .ok (.istore 4, 2) := by decide +kernel
theorem dX3_ahead_6 : decode cX3_ahead 6 = .ok (.iload 4, 2) := by decide +kernel
theorem dX3_ahead_8 : decode cX3_ahead 8 = .ok (.ifCond .eq 10, 3) := by decide +kernel
theorem dX3_ahead_11 : decode cX3_ahead 11 = .ok (.aload_n 0, 1) := by decide +kernel
theorem dX3_ahead_12 : decode cX3_ahead 12 = .ok (.iload 4, 2) := by decide +kernel
theorem dX3_ahead_14 : decode cX3_ahead 14 = .ok (.invokevirtual 45, 3) := by decide +kernel
theorem dX3_ahead_17 : decode cX3_ahead 17 = .ok (.ireturn, 1) := by decide +kernel
theorem dX3_ahead_18 : decode cX3_ahead 18 = .ok (.iload_n 1, 1) := by decide +kernel
theorem dX3_ahead_19 : decode cX3_ahead 19 = .ok (.ifCond .gt 5, 3) := by decide +kernel
theorem dX3_ahead_22 : decode cX3_ahead 22 = .ok (.iconst 0, 1) := by decide +kernel
theorem dX3_ahead_23 : decode cX3_ahead 23 = .ok (.ireturn, 1) := by decide +kernel
theorem dX3_ahead_24 : decode cX3_ahead 24 = .ok (.bipush (-2), 2) := by decide +kernel
theorem dX3_ahead_26 : decode cX3_ahead 26 = .ok (.istore 5, 2) := by decide +kernel
theorem dX3_ahead_28 : decode cX3_ahead 28 = .ok (.iconst 0, 1) := by decide +kernel
theorem dX3_ahead_29 : decode cX3_ahead 29 = .ok (.istore 6, 2) := by decide +kernel
theorem dX3_ahead_31 : decode cX3_ahead 31 = .ok (.iload 6, 2) := by decide +kernel
theorem dX3_ahead_33 : decode cX3_ahead 33 = .ok (.bipush 84, 2) := by decide +kernel
theorem dX3_ahead_35 : decode cX3_ahead 35 = .ok (.if_icmp .ge 75, 3) := by decide +kernel
theorem dX3_ahead_38 : decode cX3_ahead 38 = .ok (.iload 6, 2) := by decide +kernel
theorem dX3_ahead_40 : decode cX3_ahead 40 = .ok (.invokestatic 19, 3) := by decide +kernel
theorem dX3_ahead_43 : decode cX3_ahead 43 = .ok (.istore 7, 2) := by decide +kernel
theorem dX3_ahead_45 : decode cX3_ahead 45 = .ok (.iload 6, 2) := by decide +kernel
theorem dX3_ahead_47 : decode cX3_ahead 47 = .ok (.invokestatic 23, 3) := by decide +kernel
theorem dX3_ahead_50 : decode cX3_ahead 50 = .ok (.istore 8, 2) := by decide +kernel
theorem dX3_ahead_52 : decode cX3_ahead 52 = .ok (.aload_n 0, 1) := by decide +kernel
theorem dX3_ahead_53 : decode cX3_ahead 53 = .ok (.iload 7, 2) := by decide +kernel
theorem dX3_ahead_55 : decode cX3_ahead 55 = .ok (.iload 8, 2) := by decide +kernel
theorem dX3_ahead_57 : decode cX3_ahead 57 = .ok (.invokevirtual 26, 3) := by decide +kernel
theorem dX3_ahead_60 : decode cX3_ahead 60 = .ok (.ifCond .eq 6, 3) := by decide +kernel
theorem dX3_ahead_63 : decode cX3_ahead 63 = .ok (.goto 41, 3) := by decide +kernel
theorem dX3_ahead_66 : decode cX3_ahead 66 = .ok (.aload_n 0, 1) := by decide +kernel
theorem dX3_ahead_67 : decode cX3_ahead 67 = .ok (.iload 7, 2) := by decide +kernel
theorem dX3_ahead_69 : decode cX3_ahead 69 = .ok (.iload 8, 2) := by decide +kernel
theorem dX3_ahead_71 : decode cX3_ahead 71 = .ok (.iload_n 1, 1) := by decide +kernel
theorem dX3_ahead_72 : decode cX3_ahead 72 = .ok (.iconst 1, 1) := by decide +kernel
theorem dX3_ahead_73 : decode cX3_ahead 73 = .ok (.isub, 1) := by decide +kernel
theorem dX3_ahead_74 : decode cX3_ahead 74 = .ok (.iload_n 2, 1) := by decide +kernel
theorem dX3_ahead_75 : decode cX3_ahead 75 = .ok (.iload 5, 2) := by decide +kernel
theorem dX3_ahead_77 : decode cX3_ahead 77 = .ok (.invokestatic 48, 3) := by decide +kernel
theorem dX3_ahead_80 : decode cX3_ahead 80 = .ok (.iload_n 3, 1) := by decide +kernel
theorem dX3_ahead_81 : decode cX3_ahead 81 = .ok (.invokestatic 41, 3) := by decide +kernel
theorem dX3_ahead_84 : decode cX3_ahead 84 = .ok (.istore 9, 2) := by decide +kernel
theorem dX3_ahead_86 : decode cX3_ahead 86 = .ok (.iload 5, 2) := by decide +kernel
theorem dX3_ahead_88 : decode cX3_ahead 88 = .ok (.iload 9, 2) := by decide +kernel
theorem dX3_ahead_90 : decode cX3_ahead 90 = .ok (.invokestatic 48, 3) := by decide +kernel
theorem dX3_ahead_93 : decode cX3_ahead 93 = .ok (.istore 5, 2) := by decide +kernel
theorem dX3_ahead_95 : decode cX3_ahead 95 = .ok (.iload 5, 2) := by decide +kernel
theorem dX3_ahead_97 : decode cX3_ahead 97 = .ok (.iload_n 3, 1) := by decide +kernel
theorem dX3_ahead_98 : decode cX3_ahead 98 = .ok (.if_icmp .lt 6, 3) := by decide +kernel
theorem dX3_ahead_101 : decode cX3_ahead 101 = .ok (.iload 5, 2) := by decide +kernel
theorem dX3_ahead_103 : decode cX3_ahead 103 = .ok (.ireturn, 1) := by decide +kernel
theorem dX3_ahead_104 : decode cX3_ahead 104 = .ok (.iinc 6 1, 3) := by decide +kernel
theorem dX3_ahead_107 : decode cX3_ahead 107 = .ok (.goto (-76), 3) := by decide +kernel
theorem dX3_ahead_110 : decode cX3_ahead 110 = .ok (.iload 5, 2) := by decide +kernel
theorem dX3_ahead_112 : decode cX3_ahead 112 = .ok (.bipush (-2), 2) := by decide +kernel
theorem dX3_ahead_114 : decode cX3_ahead 114 = .ok (.if_icmp .ne 7, 3) := by decide +kernel
theorem dX3_ahead_117 : decode cX3_ahead 117 = .ok (.iconst 0, 1) := by decide +kernel
theorem dX3_ahead_118 : decode cX3_ahead 118 = .ok (.goto 5, 3) := by decide +kernel
theorem dX3_ahead_121 : decode cX3_ahead 121 = .ok (.iload 5, 2) := by decide +kernel
theorem dX3_ahead_123 : decode cX3_ahead 123 = .ok (.ireturn, 1) := by decide +kernel
theorem dX3_behind_0 : decode cX3_behind 0 = .ok (.aload_n 0, 1) := by decide +kernel
theorem dX3_behind_1 : decode cX3_behind 1 = .ok (.invokevirtual 51, 3) := by decide +kernel
theorem dX3_behind_4 : decode cX3_behind 4 = .ok (.istore 6, 2) := by decide +kernel
theorem dX3_behind_6 : decode cX3_behind 6 = .ok (.aload_n 0, 1) := by decide +kernel
theorem dX3_behind_7 : decode cX3_behind 7 = .ok (.invokevirtual 54, 3) := by decide +kernel
theorem dX3_behind_10 : decode cX3_behind 10 = .ok (.istore 7, 2) := by decide +kernel
theorem dX3_behind_12 : decode cX3_behind 12 = .ok (.aload_n 0, 1) := by decide +kernel
theorem dX3_behind_13 : decode cX3_behind 13 = .ok (.invokevirtual 57, 3) := by decide +kernel
theorem dX3_behind_16 : decode cX3_behind 16 = .ok (.istore 8, 2) := by decide +kernel
theorem dX3_behind_18 : decode cX3_behind 18 = .ok (.aload_n 0, 1) := by decide +kernel
theorem dX3_behind_19 : decode cX3_behind 19 = .ok (.iload_n 1, 1) := by decide +kernel
theorem dX3_behind_20 : decode cX3_behind 20 = .ok (.iload_n 2, 1) := by decide +kernel
theorem dX3_behind_21 : decode cX3_behind 21 = .ok (.invokevirtual 60, 3) := by decide +kernel
theorem dX3_behind_24 : decode cX3_behind 24 = .ok (.aload_n 0, 1) := by decide +kernel
theorem dX3_behind_25 : decode cX3_behind 25 = .ok (.invokevirtual 51, 3) := by decide +kernel
theorem dX3_behind_28 : decode cX3_behind 28 = .ok (.iload 6, 2) := by decide +kernel
theorem dX3_behind_30 : decode cX3_behind 30 = .ok (.if_icmp .ne 15, 3) := by decide +kernel
theorem dX3_behind_33 : decode cX3_behind 33 = .ok (.aload_n 0, 1) := by decide +kernel
theorem dX3_behind_34 : decode cX3_behind 34 = .ok (.iload_n 3, 1) := by decide +kernel
theorem dX3_behind_35 : decode cX3_behind 35 = .ok (.iload 4, 2) := by decide +kernel
theorem dX3_behind_37 : decode cX3_behind 37 = .ok (.iload 5, 2) := by decide +kernel
theorem dX3_behind_39 : decode cX3_behind 39 = .ok (.invokestatic 7, 3) := by decide +kernel
theorem dX3_behind_42 : decode cX3_behind 42 = .ok (.goto 15, 3) := by decide +kernel
theorem dX3_behind_45 : decode cX3_behind 45 = .ok (.aload_n 0, 1) := by decide +kernel
theorem dX3_behind_46 : decode cX3_behind 46 = .ok (.iload_n 3, 1) := by decide +kernel
theorem dX3_behind_47 : decode cX3_behind 47 = .ok (.iload 5, 2) := by decide +kernel
theorem dX3_behind_49 : decode cX3_behind 49 = .ok (.ineg, 1) := by decide +kernel
theorem dX3_behind_50 : decode cX3_behind 50 = .ok (.iload 4, 2) := by decide +kernel
theorem dX3_behind_52 : decode cX3_behind 52 = .ok (.ineg, 1) := by decide +kernel
theorem dX3_behind_53 : decode cX3_behind 53 = .ok (.invokestatic 7, 3) := by decide +kernel
theorem dX3_behind_56 : decode cX3_behind 56 = .ok (.ineg, 1) := by decide +kernel
theorem dX3_behind_57 : decode cX3_behind 57 = .ok (.istore 9, 2) := by decide +kernel
theorem dX3_behind_59 : decode cX3_behind 59 = .ok (.aload_n 0, 1) := by decide +kernel
theorem dX3_behind_60 : decode cX3_behind 60 = .ok (.iload_n 1, 1) := by decide +kernel
theorem dX3_behind_61 : decode cX3_behind 61 = .ok (.iload_n 2, 1) := by decide +kernel
theorem dX3_behind_62 : decode cX3_behind 62 = .ok (.iload 6, 2) := by decide +kernel
theorem dX3_behind_64 : decode cX3_behind 64 = .ok (.iload 7, 2) := by decide +kernel
theorem dX3_behind_66 : decode cX3_behind 66 = .ok (.iload 8, 2) := by decide +kernel
theorem dX3_behind_68 : decode cX3_behind 68 = .ok (.invokevirtual 64, 3) := by decide +kernel
theorem dX3_behind_71 : decode cX3_behind 71 = .ok (.iload 9, 2) := by decide +kernel
theorem dX3_behind_73 : decode cX3_behind 73 = .ok (.ireturn, 1) := by decide +kernel
theorem dX4_init_0 : decode cX4_init 0 = .ok (.aload_n 0, 1) := by decide +kernel
theorem dX4_init_1 : decode cX4_init 1 = .ok (.invokespecial 1, 3) := by decide +kernel
theorem dX4_init_4 : decode cX4_init 4 = .ok (.aload_n 0, 1) := by decide +kernel
theorem dX4_init_5 : decode cX4_init 5 = .ok (.new 7, 3) := by decide +kernel
theorem dX4_init_8 : decode cX4_init 8 = .ok (.dup, 1) := by decide +kernel
theorem dX4_init_9 : decode cX4_init 9 = .ok (.invokespecial 9, 3) := by decide +kernel
theorem dX4_init_12 : decode cX4_init 12 = .ok (.putfield 10, 3) := by decide +kernel
theorem dX4_init_15 : decode cX4_init 15 = .ok (.aload_n 0, 1) := by decide +kernel
theorem dX4_init_16 : decode cX4_init 16 = .ok (.new 7, 3) := by decide +kernel
theorem dX4_init_19 : decode cX4_init 19 = .ok (.dup, 1) := by decide +kernel
theorem dX4_init_20 : decode cX4_init 20 = .ok (.invokespecial 9, 3) := by decide +kernel
theorem dX4_init_23 : decode cX4_init 23 = .ok (.putfield 16, 3) := by decide +kernel
theorem dX4_init_26 : decode cX4_init 26 = .ok (.aload_n 0, 1) := by decide +kernel
theorem dX4_init_27 : decode cX4_init 27 = .ok (.new 7, 3) := by decide +kernel
theorem dX4_init_30 : decode cX4_init 30 = .ok (.dup, 1) := by decide +kernel
theorem dX4_init_31 : decode cX4_init 31 = .ok (.invokespecial 9, 3) := by decide +kernel
theorem dX4_init_34 : decode cX4_init 34 = .ok (.putfield 19, 3) := by decide +kernel
theorem dX4_init_37 : decode cX4_init 37 = .ok (.aload_n 0, 1) := by decide +kernel
theorem dX4_init_38 : decode cX4_init 38 = .ok (.new 22, 3) := by decide +kernel
theorem dX4_init_41 : decode cX4_init 41 = .ok (.dup, 1) := by decide +kernel
theorem dX4_init_42 : decode cX4_init 42 = .ok (.invokespecial 24, 3) := by decide +kernel
theorem dX4_init_45 : decode cX4_init 45 = .ok (.putfield 25, 3) := by decide +kernel
theorem dX4_init_48 : decode cX4_init 48 = .ok (.aload_n 0, 1) := by decide +kernel
theorem dX4_init_49 : decode cX4_init 49 = .ok (.new 29, 3) := by decide +kernel
theorem dX4_init_52 : decode cX4_init 52 = .ok (.dup, 1) := by decide +kernel
theorem dX4_init_53 : decode cX4_init 53 = .ok (.invokespecial 31, 3) := by decide +kernel
theorem dX4_init_56 : decode cX4_init 56 = .ok (.putfield 32, 3) := by decide +kernel
theorem dX4_init_59 : decode cX4_init 59 = .ok (.return_, 1) := by decide +kernel
theorem dX4_lay_0 : decode cX4_lay 0 = .ok (.iload_n 1, 1) := by decide +kernel
theorem dX4_lay_1 : decode cX4_lay 1 = .ok (.invokestatic 36, 3) := by decide +kernel
theorem dX4_lay_4 : decode cX4_lay 4 = .ok (.ifCond .eq 10, 3) := by decide +kernel
theorem dX4_lay_7 : decode cX4_lay 7 = .ok (.iload_n 2, 1) := by decide +kernel
theorem dX4_lay_8 : decode cX4_lay 8 = .ok (.invokestatic 40, 3) := by decide +kernel
theorem dX4_lay_11 : decode cX4_lay 11 = .ok (.ifCond .ne 7, 3) := by decide +kernel
theorem dX4_lay_14 : decode cX4_lay 14 = .ok (.sipush (-10001), 3) := by decide +kernel
theorem dX4_lay_17 : decode cX4_lay 17 = .ok (.ireturn, 1) := by decide +kernel
theorem dX4_lay_18 : decode cX4_lay 18 = .ok (.aload_n 0, 1) := by decide +kernel
theorem dX4_lay_19 : decode cX4_lay 19 = .ok (.iload_n 1, 1) := by decide +kernel
theorem dX4_lay_20 : decode cX4_lay 20 = .ok (.iload_n 2, 1) := by decide +kernel
theorem dX4_lay_21 : decode cX4_lay 21 = .ok (.invokevirtual 43, 3) := by decide +kernel
theorem dX4_lay_24 : decode cX4_lay 24 = .ok (.ireturn, 1) := by decide +kernel
theorem dX4_push_0 : decode cX4_push 0 = .ok (.iload_n 1, 1) := by decide +kernel
theorem dX4_push_1 : decode cX4_push 1 = .ok (.invokestatic 40, 3) := by decide +kernel
theorem dX4_push_4 : decode cX4_push 4 = .ok (.ifCond .ne 7, 3) := by decide +kernel
theorem dX4_push_7 : decode cX4_push 7 = .ok (.sipush (-10001), 3) := by decide +kernel
theorem dX4_push_10 : decode cX4_push 10 = .ok (.ireturn, 1) := by decide +kernel
theorem dX4_push_11 : decode cX4_push 11 = .ok (.aload_n 0, 1) := by decide +kernel
theorem dX4_push_12 : decode cX4_push 12 = .ok (.iload_n 2, 1) := by decide +kernel
theorem dX4_push_13 : decode cX4_push 13 = .ok (.ifCond .eq 8, 3) := by decide +kernel
theorem dX4_push_16 : decode cX4_push 16 = .ok (.bipush 6, 2) := by decide +kernel
theorem dX4_push_18 : decode cX4_push 18 = .ok (.goto 5, 3) := by decide +kernel
theorem dX4_push_21 : decode cX4_push 21 = .ok (.bipush 7, 2) := by decide +kernel
theorem dX4_push_23 : decode cX4_push 23 = .ok (.iload_n 1, 1) := by decide +kernel
theorem dX4_push_24 : decode cX4_push 24 = .ok (.invokevirtual 43, 3) := by decide +kernel
theorem dX4_push_27 : decode cX4_push 27 = .ok (.ireturn, 1) := by decide +kernel
theorem dX4_makeMove_0 : decode cX4_makeMove 0 = .ok (.aload_n 0, 1) := by decide +kernel
theorem dX4_makeMove_1 : decode cX4_makeMove 1 = .ok (.getfield 10, 3) := by decide +kernel
theorem dX4_makeMove_4 : decode cX4_makeMove 4 = .ok (.iload_n 1, 1) := by decide +kernel
theorem dX4_makeMove_5 : decode cX4_makeMove 5 = .ok (.iload_n 2, 1) := by decide +kernel
theorem dX4_makeMove_6 : decode cX4_makeMove 6 = .ok (.invokevirtual 60, 3) := by decide +kernel
theorem dX4_makeMove_9 : decode cX4_makeMove 9 = .ok (.istore_n 3, 1) := by decide +kernel
theorem dX4_makeMove_10 : decode cX4_makeMove 10 = .ok (.iload_n 3, 1) := by decide +kernel
theorem dX4_makeMove_11 : decode cX4_makeMove 11 = .ok (.ifCond .eq 9, 3) := by decide +kernel
theorem dX4_makeMove_14 : decode cX4_makeMove 14 = .ok (.sipush (-10010), 3) := by decide +kernel
theorem dX4_makeMove_17 : decode cX4_makeMove 17 = .ok (.iload_n 3, 1) := by decide +kernel
theorem dX4_makeMove_18 : decode cX4_makeMove 18 = .ok (.isub, 1) := by decide +kernel
theorem dX4_makeMove_19 : decode cX4_makeMove 19 = .ok (.ireturn, 1) := by decide +kernel
theorem dX4_makeMove_20 : decode cX4_makeMove 20 = .ok (.aload_n 0, 1) := by decide +kernel
theorem dX4_makeMove_21 : decode cX4_makeMove 21 = .ok (.getfield 25, 3) := by decide +kernel
theorem dX4_makeMove_24 : decode cX4_makeMove 24 = .ok (.aload_n 0, 1) := by decide +kernel
theorem dX4_makeMove_25 : decode cX4_makeMove 25 = .ok (.getfield 10, 3) := by decide +kernel
theorem dX4_makeMove_28 : decode cX4_makeMove 28 = .ok (.invokevirtual 63, 3) := by decide +kernel
theorem dX4_makeMove_31 : decode cX4_makeMove 31 = .ok (.aload_n 0, 1) := by decide +kernel
theorem dX4_makeMove_32 : decode cX4_makeMove 32 = .ok (.getfield 10, 3) := by decide +kernel
theorem dX4_makeMove_35 : decode cX4_makeMove 35 = .ok (.iload_n 1, 1) := by decide +kernel
theorem dX4_makeMove_36 : decode cX4_makeMove 36 = .ok (.iload_n 2, 1) := by decide +kernel
theorem dX4_makeMove_37 : decode cX4_makeMove 37 = .ok (.invokevirtual 67, 3) := by decide +kernel
theorem dX4_makeMove_40 : decode cX4_makeMove 40 = .ok (.aload_n 0, 1) := by decide +kernel
theorem dX4_makeMove_41 : decode cX4_makeMove 41 = .ok (.getfield 10, 3) := by decide +kernel
theorem dX4_makeMove_44 : decode cX4_makeMove 44 = .ok (.invokevirtual 70, 3) := by decide +kernel
theorem dX4_makeMove_47 : decode cX4_makeMove 47 = .ok (.ireturn, 1) := by decide +kernel
theorem dX4_setBag_0 : decode cX4_setBag 0 = .ok (.iload_n 1, 1) := by decide +kernel
theorem dX4_setBag_1 : decode cX4_setBag 1 = .ok (.invokestatic 74, 3) := by decide +kernel
theorem dX4_setBag_4 : decode cX4_setBag 4 = .ok (.ifCond .eq 10, 3) := by decide +kernel
theorem dX4_setBag_7 : decode cX4_setBag 7 = .ok (.iload_n 2, 1) := by decide +kernel
theorem dX4_setBag_8 : decode cX4_setBag 8 = .ok (.invokestatic 36, 3) := by decide +kernel
theorem dX4_setBag_11 : decode cX4_setBag 11 = .ok (.ifCond .ne 7, 3) := by decide +kernel
theorem dX4_setBag_14 : decode cX4_setBag 14 = .ok (.sipush (-10001), 3) := by decide +kernel
theorem dX4_setBag_17 : decode cX4_setBag 17 = .ok (.ireturn, 1) := by decide +kernel
theorem dX4_setBag_18 : decode cX4_setBag 18 = .ok (.iload_n 3, 1) := by decide +kernel
theorem dX4_setBag_19 : decode cX4_setBag 19 = .ok (.ifCond .lt 9, 3) := by decide +kernel
theorem dX4_setBag_22 : decode cX4_setBag 22 = .ok (.iload_n 3, 1) := by decide +kernel
theorem dX4_setBag_23 : decode cX4_setBag 23 = .ok (.bipush 6, 2) := by decide +kernel
theorem dX4_setBag_25 : decode cX4_setBag 25 = .ok (.if_icmp .le 7, 3) := by decide +kernel
theorem dX4_setBag_28 : decode cX4_setBag 28 = .ok (.sipush (-10002), 3) := by decide +kernel
theorem dX4_setBag_31 : decode cX4_setBag 31 = .ok (.ireturn, 1) := by decide +kernel
theorem dX4_setBag_32 : decode cX4_setBag 32 = .ok (.aload_n 0, 1) := by decide +kernel
theorem dX4_setBag_33 : decode cX4_setBag 33 = .ok (.getfield 10, 3) := by decide +kernel
theorem dX4_setBag_36 : decode cX4_setBag 36 = .ok (.iload_n 1, 1) := by decide +kernel
theorem dX4_setBag_37 : decode cX4_setBag 37 = .ok (.iload_n 2, 1) := by decide +kernel
theorem dX4_setBag_38 : decode cX4_setBag 38 = .ok (.invokevirtual 77, 3) := by decide +kernel
theorem dX4_setBag_41 : decode cX4_setBag 41 = .ok (.istore 4, 2) := by decide +kernel
theorem dX4_setBag_43 : decode cX4_setBag 43 = .ok (.iload 4, 2) := by decide +kernel
theorem dX4_setBag_45 : decode cX4_setBag 45 = .ok (.iload_n 3, 1) := by decide +kernel
theorem dX4_setBag_46 : decode cX4_setBag 46 = .ok (.if_icmp .ne 7, 3) := by decide +kernel
theorem dX4_setBag_49 : decode cX4_setBag 49 = .ok (.sipush (-10005), 3) := by decide +kernel
theorem dX4_setBag_52 : decode cX4_setBag 52 = .ok (.ireturn, 1) := by decide +kernel
theorem dX4_setBag_53 : decode cX4_setBag 53 = .ok (.aload_n 0, 1) := by decide +kernel
theorem dX4_setBag_54 : decode cX4_setBag 54 = .ok (.getfield 25, 3) := by decide +kernel
theorem dX4_setBag_57 : decode cX4_setBag 57 = .ok (.aload_n 0, 1) := by decide +kernel
theorem dX4_setBag_58 : decode cX4_setBag 58 = .ok (.getfield 10, 3) := by decide +kernel
theorem dX4_setBag_61 : decode cX4_setBag 61 = .ok (.invokevirtual 63, 3) := by decide +kernel
theorem dX4_setBag_64 : decode cX4_setBag 64 = .ok (.aload_n 0, 1) := by decide +kernel
theorem dX4_setBag_65 : decode cX4_setBag 65 = .ok (.getfield 10, 3) := by decide +kernel
theorem dX4_setBag_68 : decode cX4_setBag 68 = .ok (.iload_n 1, 1) := by decide +kernel
theorem dX4_setBag_69 : decode cX4_setBag 69 = .ok (.iload_n 2, 1) := by decide +kernel
theorem dX4_setBag_70 : decode cX4_setBag 70 = .ok (.iload_n 3, 1) := by decide +kernel
theorem dX4_setBag_71 : decode cX4_setBag 71 = .ok (.iload 4, 2) := by decide +kernel
theorem dX4_setBag_73 : decode cX4_setBag 73 = .ok (.isub, 1) := by decide +kernel
theorem dX4_setBag_74 : decode cX4_setBag 74 = .ok (.invokevirtual 80, 3) := by decide +kernel
theorem dX4_setBag_77 : decode cX4_setBag 77 = .ok (.iload 4, 2) := by decide +kernel
theorem dX4_setBag_79 : decode cX4_setBag 79 = .ok (.ireturn, 1) := by decide +kernel
theorem dX4_set_0 : decode cX4_set 0 = .ok (.iload_n 1, 1) := by decide +kernel
theorem dX4_set_1 : decode cX4_set 1 = .ok (.invokestatic 84, 3) := by decide +kernel
theorem dX4_set_4 : decode cX4_set 4 = .ok (.ifCond .ne 7, 3) := by decide +kernel
theorem dX4_set_7 : decode cX4_set 7 = .ok (.sipush (-10001), 3) := by decide +kernel
theorem dX4_set_10 : decode cX4_set 10 = .ok (.ireturn, 1) := by decide +kernel
theorem dX4_set_11 : decode cX4_set 11 = .ok (.iload_n 2, 1) := by decide +kernel
theorem dX4_set_12 : decode cX4_set 12 = .ok (.iload_n 1, 1) := by decide +kernel
theorem dX4_set_13 : decode cX4_set 13 = .ok (.invokestatic 87, 3) := by decide +kernel
theorem dX4_set_16 : decode cX4_set 16 = .ok (.if_icmp .lt 11, 3) := by decide +kernel
theorem dX4_set_19 : decode cX4_set 19 = .ok (.iload_n 2, 1) := by decide +kernel
theorem dX4_set_20 : decode cX4_set 20 = .ok (.iload_n 1, 1) := by decide +kernel
theorem dX4_set_21 : decode cX4_set 21 = .ok (.invokestatic 90, 3) := by decide +kernel
theorem dX4_set_24 : decode cX4_set 24 = .ok (.if_icmp .le 7, 3) := by decide +kernel
theorem dX4_set_27 : decode cX4_set 27 = .ok (.sipush (-10002), 3) := by decide +kernel
theorem dX4_set_30 : decode cX4_set 30 = .ok (.ireturn, 1) := by decide +kernel
theorem dX4_set_31 : decode cX4_set 31 = .ok (.aload_n 0, 1) := by decide +kernel
theorem dX4_set_32 : decode cX4_set 32 = .ok (.getfield 10, 3) := by decide +kernel
theorem dX4_set_35 : decode cX4_set 35 = .ok (.iload_n 1, 1) := by decide +kernel
theorem dX4_set_36 : decode cX4_set 36 = .ok (.invokevirtual 93, 3) := by decide +kernel
theorem dX4_set_39 : decode cX4_set 39 = .ok (.istore_n 3, 1) := by decide +kernel
theorem dX4_set_40 : decode cX4_set 40 = .ok (.iload_n 3, 1) := by decide +kernel
theorem dX4_set_41 : decode cX4_set 41 = .ok (.iload_n 2, 1) := by decide +kernel
theorem dX4_set_42 : decode cX4_set 42 = .ok (.if_icmp .ne 7, 3) := by decide +kernel
theorem dX4_set_45 : decode cX4_set 45 = .ok (.sipush (-10005), 3) := by decide +kernel
theorem dX4_set_48 : decode cX4_set 48 = .ok (.ireturn, 1) := by decide +kernel
theorem dX4_set_49 : decode cX4_set 49 = .ok (.aload_n 0, 1) := by decide +kernel
theorem dX4_set_50 : decode cX4_set 50 = .ok (.getfield 25, 3) := by decide +kernel
theorem dX4_set_53 : decode cX4_set 53 = .ok (.aload_n 0, 1) := by decide +kernel
theorem dX4_set_54 : decode cX4_set 54 = .ok (.getfield 10, 3) := by decide +kernel
theorem dX4_set_57 : decode cX4_set 57 = .ok (.invokevirtual 63, 3) := by decide +kernel
theorem dX4_set_60 : decode cX4_set 60 = .ok (.aload_n 0, 1) := by decide +kernel
theorem dX4_set_61 : decode cX4_set 61 = .ok (.getfield 10, 3) := by decide +kernel
theorem dX4_set_64 : decode cX4_set 64 = .ok (.iload_n 1, 1) := by decide +kernel
theorem dX4_set_65 : decode cX4_set 65 = .ok (.iload_n 2, 1) := by decide +kernel
theorem dX4_set_66 : decode cX4_set 66 = .ok (.invokevirtual 96, 3) := by decide +kernel
theorem dX4_set_69 : decode cX4_set 69 = .ok (.iload_n 3, 1) := by decide +kernel
theorem dX4_set_70 : decode cX4_set 70 = .ok (.ireturn, 1) := by decide +kernel
theorem dX4_setUp_0 : decode cX4_setUp 0 = .ok (.iload_n 1, 1) := by decide +kernel
theorem dX4_setUp_1 : decode cX4_setUp 1 = .ok (.invokestatic 36, 3) := by decide +kernel
theorem dX4_setUp_4 : decode cX4_setUp 4 = .ok (.ifCond .eq 10, 3) := by decide +kernel
theorem dX4_setUp_7 : decode cX4_setUp 7 = .ok (.iload_n 2, 1) := by decide +kernel
theorem dX4_setUp_8 : decode cX4_setUp 8 = .ok (.invokestatic 40, 3) := by decide +kernel
theorem dX4_setUp_11 : decode cX4_setUp 11 = .ok (.ifCond .ne 7, 3) := by decide +kernel
theorem dX4_setUp_14 : decode cX4_setUp 14 = .ok (.sipush (-10001), 3) := by decide +kernel
theorem dX4_setUp_17 : decode cX4_setUp 17 = .ok (.ireturn, 1) := by decide +kernel
theorem dX4_setUp_18 : decode cX4_setUp 18 = .ok (.aload_n 0, 1) := by decide +kernel
theorem dX4_setUp_19 : decode cX4_setUp 19 = .ok (.getfield 10, 3) := by decide +kernel
theorem dX4_setUp_22 : decode cX4_setUp 22 = .ok (.iload_n 2, 1) := by decide +kernel
theorem dX4_setUp_23 : decode cX4_setUp 23 = .ok (.invokevirtual 99, 3) := by decide +kernel
theorem dX4_setUp_26 : decode cX4_setUp 26 = .ok (.ifCond .eq 7, 3) := by decide +kernel
theorem dX4_setUp_29 : decode cX4_setUp 29 = .ok (.sipush (-10003), 3) := by decide +kernel
theorem dX4_setUp_32 : decode cX4_setUp 32 = .ok (.ireturn, 1) := by decide +kernel
theorem dX4_setUp_33 : decode cX4_setUp 33 = .ok (.aload_n 0, 1) := by decide +kernel
theorem dX4_setUp_34 : decode cX4_setUp 34 = .ok (.getfield 25, 3) := by decide +kernel
theorem dX4_setUp_37 : decode cX4_setUp 37 = .ok (.aload_n 0, 1) := by decide +kernel
theorem dX4_setUp_38 : decode cX4_setUp 38 = .ok (.getfield 10, 3) := by decide +kernel
theorem dX4_setUp_41 : decode cX4_setUp 41 = .ok (.invokevirtual 63, 3) := by decide +kernel
theorem dX4_setUp_44 : decode cX4_setUp 44 = .ok (.aload_n 0, 1) := by decide +kernel
theorem dX4_setUp_45 : decode cX4_setUp 45 = .ok (.getfield 10, 3) := by decide +kernel
theorem dX4_setUp_48 : decode cX4_setUp 48 = .ok (.iload_n 1, 1) := by decide +kernel
theorem dX4_setUp_49 : decode cX4_setUp 49 = .ok (.iload_n 2, 1) := by decide +kernel
theorem dX4_setUp_50 : decode cX4_setUp 50 = .ok (.invokevirtual 102, 3) := by decide +kernel
theorem dX4_setUp_53 : decode cX4_setUp 53 = .ok (.aload_n 0, 1) := by decide +kernel
theorem dX4_setUp_54 : decode cX4_setUp 54 = .ok (.getfield 10, 3) := by decide +kernel
theorem dX4_setUp_57 : decode cX4_setUp 57 = .ok (.invokevirtual 70, 3) := by decide +kernel
theorem dX4_setUp_60 : decode cX4_setUp 60 = .ok (.ireturn, 1) := by decide +kernel
theorem dX4_begin_0 : decode cX4_begin 0 = .ok (.aload_n 0, 1) := by decide +kernel
theorem dX4_begin_1 : decode cX4_begin 1 = .ok (.getfield 10, 3) := by decide +kernel
theorem dX4_begin_4 : decode cX4_begin 4 = .ok (.invokevirtual 105, 3) := by decide +kernel
theorem dX4_begin_7 : decode cX4_begin 7 = .ok (.istore_n 1, 1) := by decide +kernel
theorem dX4_begin_8 : decode cX4_begin 8 = .ok (.aload_n 0, 1) := by decide +kernel
theorem dX4_begin_9 : decode cX4_begin 9 = .ok (.getfield 25, 3) := by decide +kernel
theorem dX4_begin_12 : decode cX4_begin 12 = .ok (.aload_n 0, 1) := by decide +kernel
theorem dX4_begin_13 : decode cX4_begin 13 = .ok (.getfield 10, 3) := by decide +kernel
theorem dX4_begin_16 : decode cX4_begin 16 = .ok (.invokevirtual 63, 3) := by decide +kernel
theorem dX4_begin_19 : decode cX4_begin 19 = .ok (.aload_n 0, 1) := by decide +kernel
theorem dX4_begin_20 : decode cX4_begin 20 = .ok (.getfield 10, 3) := by decide +kernel
theorem dX4_begin_23 : decode cX4_begin 23 = .ok (.invokevirtual 108, 3) := by decide +kernel
theorem dX4_begin_26 : decode cX4_begin 26 = .ok (.iload_n 1, 1) := by decide +kernel
theorem dX4_begin_27 : decode cX4_begin 27 = .ok (.ireturn, 1) := by decide +kernel
theorem dX4_at_0 : decode cX4_at 0 = .ok (.iload_n 1, 1) := by decide +kernel
theorem dX4_at_1 : decode cX4_at 1 = .ok (.invokestatic 40, 3) := by decide +kernel
theorem dX4_at_4 : decode cX4_at 4 = .ok (.ifCond .ne 7, 3) := by decide +kernel
theorem dX4_at_7 : decode cX4_at 7 = .ok (.sipush (-10001), 3) := by decide +kernel
theorem dX4_at_10 : decode cX4_at 10 = .ok (.ireturn, 1) := by decide +kernel
theorem dX4_at_11 : decode cX4_at 11 = .ok (.iload_n 2, 1) := by decide +kernel
theorem dX4_at_12 : decode cX4_at 12 = .ok (.tableswitch 87 0 3 #[32, 41, 50, 76], 32) := by decide +kernel
theorem dX4_at_44 : decode cX4_at 44 = .ok (.aload_n 0, 1) := by decide +kernel
theorem dX4_at_45 : decode cX4_at 45 = .ok (.getfield 10, 3) := by decide +kernel
theorem dX4_at_48 : decode cX4_at 48 = .ok (.iload_n 1, 1) := by decide +kernel
theorem dX4_at_49 : decode cX4_at 49 = .ok (.invokevirtual 151, 3) := by decide +kernel
theorem dX4_at_52 : decode cX4_at 52 = .ok (.ireturn, 1) := by decide +kernel
theorem dX4_at_53 : decode cX4_at 53 = .ok (.aload_n 0, 1) := by decide +kernel
theorem dX4_at_54 : decode cX4_at 54 = .ok (.getfield 10, 3) := by decide +kernel
theorem dX4_at_57 : decode cX4_at 57 = .ok (.iload_n 1, 1) := by decide +kernel
theorem dX4_at_58 : decode cX4_at 58 = .ok (.invokevirtual 154, 3) := by decide +kernel
theorem dX4_at_61 : decode cX4_at 61 = .ok (.ireturn, 1) := by decide +kernel
theorem dX4_at_62 : decode cX4_at 62 = .ok (.aload_n 0, 1) := by decide +kernel
theorem dX4_at_63 : decode cX4_at 63 = .ok (.getfield 10, 3) := by decide +kernel
theorem dX4_at_66 : decode cX4_at 66 = .ok (.iload_n 1, 1) := by decide +kernel
theorem dX4_at_67 : decode cX4_at 67 = .ok (.invokevirtual 151, 3) := by decide +kernel
theorem dX4_at_70 : decode cX4_at 70 = .ok (.ifCond .le 14, 3) := by decide +kernel
theorem dX4_at_73 : decode cX4_at 73 = .ok (.aload_n 0, 1) := by decide +kernel
theorem dX4_at_74 : decode cX4_at 74 = .ok (.getfield 10, 3) := by decide +kernel
theorem dX4_at_77 : decode cX4_at 77 = .ok (.iload_n 1, 1) := by decide +kernel
theorem dX4_at_78 : decode cX4_at 78 = .ok (.invokevirtual 157, 3) := by decide +kernel
theorem dX4_at_81 : decode cX4_at 81 = .ok (.goto 6, 3) := by decide +kernel
theorem dX4_at_84 : decode cX4_at 84 = .ok (.sipush (-10005), 3) := by decide +kernel
theorem dX4_at_87 : decode cX4_at 87 = .ok (.ireturn, 1) := by decide +kernel
theorem dX4_at_88 : decode cX4_at 88 = .ok (.aload_n 0, 1) := by decide +kernel
theorem dX4_at_89 : decode cX4_at 89 = .ok (.getfield 10, 3) := by decide +kernel
theorem dX4_at_92 : decode cX4_at 92 = .ok (.iload_n 1, 1) := by decide +kernel
theorem dX4_at_93 : decode cX4_at 93 = .ok (.invokevirtual 154, 3) := by decide +kernel
theorem dX4_at_96 : decode cX4_at 96 = .ok (.iload_n 1, 1) := by decide +kernel
theorem dX4_at_97 : decode cX4_at 97 = .ok (.imul, 1) := by decide +kernel
theorem dX4_at_98 : decode cX4_at 98 = .ok (.ireturn, 1) := by decide +kernel
theorem dX4_at_99 : decode cX4_at 99 = .ok (.sipush (-10002), 3) := by decide +kernel
theorem dX4_at_102 : decode cX4_at 102 = .ok (.ireturn, 1) := by decide +kernel
theorem dX4_bag_0 : decode cX4_bag 0 = .ok (.iload_n 1, 1) := by decide +kernel
theorem dX4_bag_1 : decode cX4_bag 1 = .ok (.invokestatic 74, 3) := by decide +kernel
theorem dX4_bag_4 : decode cX4_bag 4 = .ok (.ifCond .eq 14, 3) := by decide +kernel
theorem dX4_bag_7 : decode cX4_bag 7 = .ok (.iload_n 2, 1) := by decide +kernel
theorem dX4_bag_8 : decode cX4_bag 8 = .ok (.ifCond .eq 14, 3) := by decide +kernel
theorem dX4_bag_11 : decode cX4_bag 11 = .ok (.iload_n 2, 1) := by decide +kernel
theorem dX4_bag_12 : decode cX4_bag 12 = .ok (.invokestatic 36, 3) := by decide +kernel
theorem dX4_bag_15 : decode cX4_bag 15 = .ok (.ifCond .ne 7, 3) := by decide +kernel
theorem dX4_bag_18 : decode cX4_bag 18 = .ok (.sipush (-10001), 3) := by decide +kernel
theorem dX4_bag_21 : decode cX4_bag 21 = .ok (.ireturn, 1) := by decide +kernel
theorem dX4_bag_22 : decode cX4_bag 22 = .ok (.aload_n 0, 1) := by decide +kernel
theorem dX4_bag_23 : decode cX4_bag 23 = .ok (.getfield 10, 3) := by decide +kernel
theorem dX4_bag_26 : decode cX4_bag 26 = .ok (.iload_n 1, 1) := by decide +kernel
theorem dX4_bag_27 : decode cX4_bag 27 = .ok (.iload_n 2, 1) := by decide +kernel
theorem dX4_bag_28 : decode cX4_bag 28 = .ok (.invokevirtual 77, 3) := by decide +kernel
theorem dX4_bag_31 : decode cX4_bag 31 = .ok (.ireturn, 1) := by decide +kernel
theorem dX4_reason_0 : decode cX4_reason 0 = .ok (.iload_n 1, 1) := by decide +kernel
theorem dX4_reason_1 : decode cX4_reason 1 = .ok (.iconst 1, 1) := by decide +kernel
theorem dX4_reason_2 : decode cX4_reason 2 = .ok (.if_icmp .lt 9, 3) := by decide +kernel
theorem dX4_reason_5 : decode cX4_reason 5 = .ok (.iload_n 1, 1) := by decide +kernel
theorem dX4_reason_6 : decode cX4_reason 6 = .ok (.bipush 7, 2) := by decide +kernel
theorem dX4_reason_8 : decode cX4_reason 8 = .ok (.if_icmp .le 7, 3) := by decide +kernel
theorem dX4_reason_11 : decode cX4_reason 11 = .ok (.sipush (-10002), 3) := by decide +kernel
theorem dX4_reason_14 : decode cX4_reason 14 = .ok (.ireturn, 1) := by decide +kernel
theorem dX4_reason_15 : decode cX4_reason 15 = .ok (.iload_n 2, 1) := by decide +kernel
theorem dX4_reason_16 : decode cX4_reason 16 = .ok (.invokestatic 40, 3) := by decide +kernel
theorem dX4_reason_19 : decode cX4_reason 19 = .ok (.ifCond .ne 7, 3) := by decide +kernel
theorem dX4_reason_22 : decode cX4_reason 22 = .ok (.sipush (-10001), 3) := by decide +kernel
theorem dX4_reason_25 : decode cX4_reason 25 = .ok (.ireturn, 1) := by decide +kernel
theorem dX4_reason_26 : decode cX4_reason 26 = .ok (.aload_n 0, 1) := by decide +kernel
theorem dX4_reason_27 : decode cX4_reason 27 = .ok (.getfield 10, 3) := by decide +kernel
theorem dX4_reason_30 : decode cX4_reason 30 = .ok (.iload_n 1, 1) := by decide +kernel
theorem dX4_reason_31 : decode cX4_reason 31 = .ok (.iload_n 2, 1) := by decide +kernel
theorem dX4_reason_32 : decode cX4_reason 32 = .ok (.invokevirtual 60, 3) := by decide +kernel
theorem dX4_reason_35 : decode cX4_reason 35 = .ok (.ireturn, 1) := by decide +kernel
theorem dX4_possible_0 : decode cX4_possible 0 = .ok (.iload_n 1, 1) := by decide +kernel
theorem dX4_possible_1 : decode cX4_possible 1 = .ok (.ifCond .ge 7, 3) := by decide +kernel
theorem dX4_possible_4 : decode cX4_possible 4 = .ok (.sipush (-10002), 3) := by decide +kernel
theorem dX4_possible_7 : decode cX4_possible 7 = .ok (.ireturn, 1) := by decide +kernel
theorem dX4_possible_8 : decode cX4_possible 8 = .ok (.iload_n 1, 1) := by decide +kernel
theorem dX4_possible_9 : decode cX4_possible 9 = .ok (.istore_n 2, 1) := by decide +kernel
theorem dX4_possible_10 : decode cX4_possible 10 = .ok (.iconst 0, 1) := by decide +kernel
theorem dX4_possible_11 : decode cX4_possible 11 = .ok (.istore_n 3, 1) := by decide +kernel
theorem dX4_possible_12 : decode cX4_possible 12 = .ok (.iload_n 3, 1) := by decide +kernel
theorem dX4_possible_13 : decode cX4_possible 13 = .ok (.bipush 84, 2) := by decide +kernel
theorem dX4_possible_15 : decode cX4_possible 15 = .ok (.if_icmp .ge 42, 3) := by decide +kernel
theorem dX4_possible_18 : decode cX4_possible 18 = .ok (.aload_n 0, 1) := by decide +kernel
theorem dX4_possible_19 : decode cX4_possible 19 = .ok (.getfield 10, 3) := by decide +kernel
theorem dX4_possible_22 : decode cX4_possible 22 = .ok (.iload_n 3, 1) := by decide +kernel
theorem dX4_possible_23 : decode cX4_possible 23 = .ok (.invokestatic 53, 3) := by decide +kernel
theorem dX4_possible_26 : decode cX4_possible 26 = .ok (.iload_n 3, 1) := by decide +kernel
theorem dX4_possible_27 : decode cX4_possible 27 = .ok (.invokestatic 57, 3) := by decide +kernel
theorem dX4_possible_30 : decode cX4_possible 30 = .ok (.invokevirtual 60, 3) := by decide +kernel
theorem dX4_possible_33 : decode cX4_possible 33 = .ok (.ifCond .eq 6, 3) := by decide +kernel
theorem dX4_possible_36 : decode cX4_possible 36 = .ok (.goto 15, 3) := by decide +kernel
theorem dX4_possible_39 : decode cX4_possible 39 = .ok (.iload_n 2, 1) := by decide +kernel
theorem dX4_possible_40 : decode cX4_possible 40 = .ok (.ifCond .ne 8, 3) := by decide +kernel
theorem dX4_possible_43 : decode cX4_possible 43 = .ok (.iload_n 3, 1) := by decide +kernel
theorem dX4_possible_44 : decode cX4_possible 44 = .ok (.invokestatic 160, 3) := by decide +kernel
theorem dX4_possible_47 : decode cX4_possible 47 = .ok (.ireturn, 1) := by decide +kernel
theorem dX4_possible_48 : decode cX4_possible 48 = .ok (.iinc 2 (-1), 3) := by decide +kernel
theorem dX4_possible_51 : decode cX4_possible 51 = .ok (.iinc 3 1, 3) := by decide +kernel
theorem dX4_possible_54 : decode cX4_possible 54 = .ok (.goto (-42), 3) := by decide +kernel
theorem dX4_possible_57 : decode cX4_possible 57 = .ok (.sipush (-10005), 3) := by decide +kernel
theorem dX4_possible_60 : decode cX4_possible 60 = .ok (.ireturn, 1) := by decide +kernel
theorem dX4_look_0 : decode cX4_look 0 = .ok (.iload_n 1, 1) := by decide +kernel
theorem dX4_look_1 : decode cX4_look 1 = .ok (.ifCond .lt 8, 3) := by decide +kernel
theorem dX4_look_4 : decode cX4_look 4 = .ok (.iload_n 1, 1) := by decide +kernel
theorem dX4_look_5 : decode cX4_look 5 = .ok (.iconst 3, 1) := by decide +kernel
theorem dX4_look_6 : decode cX4_look 6 = .ok (.if_icmp .le 7, 3) := by decide +kernel
theorem dX4_look_9 : decode cX4_look 9 = .ok (.sipush (-10002), 3) := by decide +kernel
theorem dX4_look_12 : decode cX4_look 12 = .ok (.ireturn, 1) := by decide +kernel
theorem dX4_look_13 : decode cX4_look 13 = .ok (.aload_n 0, 1) := by decide +kernel
theorem dX4_look_14 : decode cX4_look 14 = .ok (.getfield 10, 3) := by decide +kernel
theorem dX4_look_17 : decode cX4_look 17 = .ok (.iload_n 1, 1) := by decide +kernel
theorem dX4_look_18 : decode cX4_look 18 = .ok (.invokestatic 163, 3) := by decide +kernel
theorem dX4_look_21 : decode cX4_look 21 = .ok (.ireturn, 1) := by decide +kernel
theorem dX4_best_0 : decode cX4_best 0 = .ok (.iload_n 1, 1) := by decide +kernel
theorem dX4_best_1 : decode cX4_best 1 = .ok (.iconst 1, 1) := by decide +kernel
theorem dX4_best_2 : decode cX4_best 2 = .ok (.if_icmp .lt 8, 3) := by decide +kernel
theorem dX4_best_5 : decode cX4_best 5 = .ok (.iload_n 1, 1) := by decide +kernel
theorem dX4_best_6 : decode cX4_best 6 = .ok (.iconst 3, 1) := by decide +kernel
theorem dX4_best_7 : decode cX4_best 7 = .ok (.if_icmp .le 7, 3) := by decide +kernel
theorem dX4_best_10 : decode cX4_best 10 = .ok (.sipush (-10002), 3) := by decide +kernel
theorem dX4_best_13 : decode cX4_best 13 = .ok (.ireturn, 1) := by decide +kernel
theorem dX4_best_14 : decode cX4_best 14 = .ok (.aload_n 0, 1) := by decide +kernel
theorem dX4_best_15 : decode cX4_best 15 = .ok (.getfield 10, 3) := by decide +kernel
theorem dX4_best_18 : decode cX4_best 18 = .ok (.iload_n 1, 1) := by decide +kernel
theorem dX4_best_19 : decode cX4_best 19 = .ok (.invokestatic 47, 3) := by decide +kernel
theorem dX4_best_22 : decode cX4_best 22 = .ok (.istore_n 2, 1) := by decide +kernel
theorem dX4_best_23 : decode cX4_best 23 = .ok (.iload_n 2, 1) := by decide +kernel
theorem dX4_best_24 : decode cX4_best 24 = .ok (.ifCond .ge 9, 3) := by decide +kernel
theorem dX4_best_27 : decode cX4_best 27 = .ok (.sipush (-10005), 3) := by decide +kernel
theorem dX4_best_30 : decode cX4_best 30 = .ok (.goto 7, 3) := by decide +kernel
theorem dX4_best_33 : decode cX4_best 33 = .ok (.iload_n 2, 1) := by decide +kernel
theorem dX4_best_34 : decode cX4_best 34 = .ok (.invokestatic 160, 3) := by decide +kernel
theorem dX4_best_37 : decode cX4_best 37 = .ok (.ireturn, 1) := by decide +kernel
theorem dX4_levels_0 : decode cX4_levels 0 = .ok (.iload_n 1, 1) := by decide +kernel
theorem dX4_levels_1 : decode cX4_levels 1 = .ok (.invokestatic 36, 3) := by decide +kernel
theorem dX4_levels_4 : decode cX4_levels 4 = .ok (.ifCond .ne 7, 3) := by decide +kernel
theorem dX4_levels_7 : decode cX4_levels 7 = .ok (.sipush (-10001), 3) := by decide +kernel
theorem dX4_levels_10 : decode cX4_levels 10 = .ok (.ireturn, 1) := by decide +kernel
theorem dX4_levels_11 : decode cX4_levels 11 = .ok (.bipush (-6), 2) := by decide +kernel
theorem dX4_levels_13 : decode cX4_levels 13 = .ok (.istore_n 2, 1) := by decide +kernel
theorem dX4_levels_14 : decode cX4_levels 14 = .ok (.iload_n 2, 1) := by decide +kernel
theorem dX4_levels_15 : decode cX4_levels 15 = .ok (.bipush 6, 2) := by decide +kernel
theorem dX4_levels_17 : decode cX4_levels 17 = .ok (.if_icmp .gt 43, 3) := by decide +kernel
theorem dX4_levels_20 : decode cX4_levels 20 = .ok (.aload_n 0, 1) := by decide +kernel
theorem dX4_levels_21 : decode cX4_levels 21 = .ok (.getfield 10, 3) := by decide +kernel
theorem dX4_levels_24 : decode cX4_levels 24 = .ok (.invokevirtual 70, 3) := by decide +kernel
theorem dX4_levels_27 : decode cX4_levels 27 = .ok (.iload_n 1, 1) := by decide +kernel
theorem dX4_levels_28 : decode cX4_levels 28 = .ok (.iload_n 2, 1) := by decide +kernel
theorem dX4_levels_29 : decode cX4_levels 29 = .ok (.imul, 1) := by decide +kernel
theorem dX4_levels_30 : decode cX4_levels 30 = .ok (.iadd, 1) := by decide +kernel
theorem dX4_levels_31 : decode cX4_levels 31 = .ok (.ifCond .ne 23, 3) := by decide +kernel
theorem dX4_levels_34 : decode cX4_levels 34 = .ok (.iload_n 2, 1) := by decide +kernel
theorem dX4_levels_35 : decode cX4_levels 35 = .ok (.invokestatic 40, 3) := by decide +kernel
theorem dX4_levels_38 : decode cX4_levels 38 = .ok (.ifCond .eq 16, 3) := by decide +kernel
theorem dX4_levels_41 : decode cX4_levels 41 = .ok (.aload_n 0, 1) := by decide +kernel
theorem dX4_levels_42 : decode cX4_levels 42 = .ok (.getfield 10, 3) := by decide +kernel
theorem dX4_levels_45 : decode cX4_levels 45 = .ok (.iload_n 2, 1) := by decide +kernel
theorem dX4_levels_46 : decode cX4_levels 46 = .ok (.invokevirtual 99, 3) := by decide +kernel
theorem dX4_levels_49 : decode cX4_levels 49 = .ok (.ifCond .ne 5, 3) := by decide +kernel
theorem dX4_levels_52 : decode cX4_levels 52 = .ok (.iload_n 2, 1) := by decide +kernel
theorem dX4_levels_53 : decode cX4_levels 53 = .ok (.ireturn, 1) := by decide +kernel
theorem dX4_levels_54 : decode cX4_levels 54 = .ok (.iinc 2 1, 3) := by decide +kernel
theorem dX4_levels_57 : decode cX4_levels 57 = .ok (.goto (-43), 3) := by decide +kernel
theorem dX4_levels_60 : decode cX4_levels 60 = .ok (.sipush (-10005), 3) := by decide +kernel
theorem dX4_levels_63 : decode cX4_levels 63 = .ok (.ireturn, 1) := by decide +kernel
theorem dX4_made_0 : decode cX4_made 0 = .ok (.iload_n 1, 1) := by decide +kernel
theorem dX4_made_1 : decode cX4_made 1 = .ok (.ifCond .lt 12, 3) := by decide +kernel
theorem dX4_made_4 : decode cX4_made 4 = .ok (.iload_n 2, 1) := by decide +kernel
theorem dX4_made_5 : decode cX4_made 5 = .ok (.ifCond .lt 8, 3) := by decide +kernel
theorem dX4_made_8 : decode cX4_made 8 = .ok (.iload_n 2, 1) := by decide +kernel
theorem dX4_made_9 : decode cX4_made 9 = .ok (.iconst 4, 1) := by decide +kernel
theorem dX4_made_10 : decode cX4_made 10 = .ok (.if_icmp .lt 7, 3) := by decide +kernel
theorem dX4_made_13 : decode cX4_made 13 = .ok (.sipush (-10002), 3) := by decide +kernel
theorem dX4_made_16 : decode cX4_made 16 = .ok (.ireturn, 1) := by decide +kernel
theorem dX4_made_17 : decode cX4_made 17 = .ok (.aload_n 0, 1) := by decide +kernel
theorem dX4_made_18 : decode cX4_made 18 = .ok (.getfield 10, 3) := by decide +kernel
theorem dX4_made_21 : decode cX4_made 21 = .ok (.iload_n 1, 1) := by decide +kernel
theorem dX4_made_22 : decode cX4_made 22 = .ok (.invokevirtual 166, 3) := by decide +kernel
theorem dX4_made_25 : decode cX4_made 25 = .ok (.ifCond .eq 15, 3) := by decide +kernel
theorem dX4_made_28 : decode cX4_made 28 = .ok (.aload_n 0, 1) := by decide +kernel
theorem dX4_made_29 : decode cX4_made 29 = .ok (.getfield 10, 3) := by decide +kernel
theorem dX4_made_32 : decode cX4_made 32 = .ok (.iload_n 1, 1) := by decide +kernel
theorem dX4_made_33 : decode cX4_made 33 = .ok (.iload_n 2, 1) := by decide +kernel
theorem dX4_made_34 : decode cX4_made 34 = .ok (.invokevirtual 169, 3) := by decide +kernel
theorem dX4_made_37 : decode cX4_made 37 = .ok (.goto 6, 3) := by decide +kernel
theorem dX4_made_40 : decode cX4_made 40 = .ok (.sipush (-10005), 3) := by decide +kernel
theorem dX4_made_43 : decode cX4_made 43 = .ok (.ireturn, 1) := by decide +kernel
theorem dX4_count_0 : decode cX4_count 0 = .ok (.iload_n 1, 1) := by decide +kernel
theorem dX4_count_1 : decode cX4_count 1 = .ok (.tableswitch 207 0 16 #[83, 91, 99, 107, 115, 123, 139, 147, 155, 163, 171, 179, 179, 179, 179, 191, 199], 83) := by decide +kernel
theorem dX4_count_84 : decode cX4_count 84 = .ok (.aload_n 0, 1) := by decide +kernel
theorem dX4_count_85 : decode cX4_count 85 = .ok (.getfield 10, 3) := by decide +kernel
theorem dX4_count_88 : decode cX4_count 88 = .ok (.invokevirtual 172, 3) := by decide +kernel
theorem dX4_count_91 : decode cX4_count 91 = .ok (.ireturn, 1) := by decide +kernel
theorem dX4_count_92 : decode cX4_count 92 = .ok (.aload_n 0, 1) := by decide +kernel
theorem dX4_count_93 : decode cX4_count 93 = .ok (.getfield 10, 3) := by decide +kernel
theorem dX4_count_96 : decode cX4_count 96 = .ok (.invokevirtual 70, 3) := by decide +kernel
theorem dX4_count_99 : decode cX4_count 99 = .ok (.ireturn, 1) := by decide +kernel
theorem dX4_count_100 : decode cX4_count 100 = .ok (.aload_n 0, 1) := by decide +kernel
theorem dX4_count_101 : decode cX4_count 101 = .ok (.getfield 10, 3) := by decide +kernel
theorem dX4_count_104 : decode cX4_count 104 = .ok (.invokevirtual 175, 3) := by decide +kernel
theorem dX4_count_107 : decode cX4_count 107 = .ok (.ireturn, 1) := by decide +kernel
theorem dX4_count_108 : decode cX4_count 108 = .ok (.aload_n 0, 1) := by decide +kernel
theorem dX4_count_109 : decode cX4_count 109 = .ok (.getfield 10, 3) := by decide +kernel
theorem dX4_count_112 : decode cX4_count 112 = .ok (.invokevirtual 178, 3) := by decide +kernel
theorem dX4_count_115 : decode cX4_count 115 = .ok (.ireturn, 1) := by decide +kernel
theorem dX4_count_116 : decode cX4_count 116 = .ok (.aload_n 0, 1) := by decide +kernel
theorem dX4_count_117 : decode cX4_count 117 = .ok (.getfield 10, 3) := by decide +kernel
theorem dX4_count_120 : decode cX4_count 120 = .ok (.invokevirtual 181, 3) := by decide +kernel
theorem dX4_count_123 : decode cX4_count 123 = .ok (.ireturn, 1) := by decide +kernel
theorem dX4_count_124 : decode cX4_count 124 = .ok (.aload_n 0, 1) := by decide +kernel
theorem dX4_count_125 : decode cX4_count 125 = .ok (.getfield 10, 3) := by decide +kernel
theorem dX4_count_128 : decode cX4_count 128 = .ok (.invokevirtual 70, 3) := by decide +kernel
theorem dX4_count_131 : decode cX4_count 131 = .ok (.aload_n 0, 1) := by decide +kernel
theorem dX4_count_132 : decode cX4_count 132 = .ok (.getfield 10, 3) := by decide +kernel
theorem dX4_count_135 : decode cX4_count 135 = .ok (.invokevirtual 181, 3) := by decide +kernel
theorem dX4_count_138 : decode cX4_count 138 = .ok (.isub, 1) := by decide +kernel
theorem dX4_count_139 : decode cX4_count 139 = .ok (.ireturn, 1) := by decide +kernel
theorem dX4_count_140 : decode cX4_count 140 = .ok (.aload_n 0, 1) := by decide +kernel
theorem dX4_count_141 : decode cX4_count 141 = .ok (.getfield 10, 3) := by decide +kernel
theorem dX4_count_144 : decode cX4_count 144 = .ok (.invokevirtual 105, 3) := by decide +kernel
theorem dX4_count_147 : decode cX4_count 147 = .ok (.ireturn, 1) := by decide +kernel
theorem dX4_count_148 : decode cX4_count 148 = .ok (.aload_n 0, 1) := by decide +kernel
theorem dX4_count_149 : decode cX4_count 149 = .ok (.getfield 10, 3) := by decide +kernel
theorem dX4_count_152 : decode cX4_count 152 = .ok (.invokevirtual 184, 3) := by decide +kernel
theorem dX4_count_155 : decode cX4_count 155 = .ok (.ireturn, 1) := by decide +kernel
theorem dX4_count_156 : decode cX4_count 156 = .ok (.aload_n 0, 1) := by decide +kernel
theorem dX4_count_157 : decode cX4_count 157 = .ok (.getfield 10, 3) := by decide +kernel
theorem dX4_count_160 : decode cX4_count 160 = .ok (.invokevirtual 187, 3) := by decide +kernel
theorem dX4_count_163 : decode cX4_count 163 = .ok (.ireturn, 1) := by decide +kernel
theorem dX4_count_164 : decode cX4_count 164 = .ok (.aload_n 0, 1) := by decide +kernel
theorem dX4_count_165 : decode cX4_count 165 = .ok (.getfield 10, 3) := by decide +kernel
theorem dX4_count_168 : decode cX4_count 168 = .ok (.invokevirtual 190, 3) := by decide +kernel
theorem dX4_count_171 : decode cX4_count 171 = .ok (.ireturn, 1) := by decide +kernel
theorem dX4_count_172 : decode cX4_count 172 = .ok (.aload_n 0, 1) := by decide +kernel
theorem dX4_count_173 : decode cX4_count 173 = .ok (.getfield 10, 3) := by decide +kernel
theorem dX4_count_176 : decode cX4_count 176 = .ok (.invokevirtual 193, 3) := by decide +kernel
theorem dX4_count_179 : decode cX4_count 179 = .ok (.ireturn, 1) := by decide +kernel
theorem dX4_count_180 : decode cX4_count 180 = .ok (.aload_n 0, 1) := by decide +kernel
theorem dX4_count_181 : decode cX4_count 181 = .ok (.getfield 10, 3) := by decide +kernel
theorem dX4_count_184 : decode cX4_count 184 = .ok (.iload_n 1, 1) := by decide +kernel
theorem dX4_count_185 : decode cX4_count 185 = .ok (.bipush 11, 2) := by decide +kernel
theorem dX4_count_187 : decode cX4_count 187 = .ok (.isub, 1) := by decide +kernel
theorem dX4_count_188 : decode cX4_count 188 = .ok (.invokevirtual 93, 3) := by decide +kernel
theorem dX4_count_191 : decode cX4_count 191 = .ok (.ireturn, 1) := by decide +kernel
theorem dX4_count_192 : decode cX4_count 192 = .ok (.aload_n 0, 1) := by decide +kernel
theorem dX4_count_193 : decode cX4_count 193 = .ok (.getfield 25, 3) := by decide +kernel
theorem dX4_count_196 : decode cX4_count 196 = .ok (.invokevirtual 145, 3) := by decide +kernel
theorem dX4_count_199 : decode cX4_count 199 = .ok (.ireturn, 1) := by decide +kernel
theorem dX4_count_200 : decode cX4_count 200 = .ok (.aload_n 0, 1) := by decide +kernel
theorem dX4_count_201 : decode cX4_count 201 = .ok (.getfield 32, 3) := by decide +kernel
theorem dX4_count_204 : decode cX4_count 204 = .ok (.invokevirtual 115, 3) := by decide +kernel
theorem dX4_count_207 : decode cX4_count 207 = .ok (.ireturn, 1) := by decide +kernel
theorem dX4_count_208 : decode cX4_count 208 = .ok (.sipush (-10002), 3) := by decide +kernel
theorem dX4_count_211 : decode cX4_count 211 = .ok (.ireturn, 1) := by decide +kernel
theorem dX4_tellMove_0 : decode cX4_tellMove 0 = .ok (.bipush 100, 2) := by decide +kernel
theorem dX4_tellMove_2 : decode cX4_tellMove 2 = .ok (.iload_n 0, 1) := by decide +kernel
theorem dX4_tellMove_3 : decode cX4_tellMove 3 = .ok (.invokestatic 53, 3) := by decide +kernel
theorem dX4_tellMove_6 : decode cX4_tellMove 6 = .ok (.imul, 1) := by decide +kernel
theorem dX4_tellMove_7 : decode cX4_tellMove 7 = .ok (.iload_n 0, 1) := by decide +kernel
theorem dX4_tellMove_8 : decode cX4_tellMove 8 = .ok (.invokestatic 57, 3) := by decide +kernel
theorem dX4_tellMove_11 : decode cX4_tellMove 11 = .ok (.iadd, 1) := by decide +kernel
theorem dX4_tellMove_12 : decode cX4_tellMove 12 = .ok (.bipush 50, 2) := by decide +kernel
theorem dX4_tellMove_14 : decode cX4_tellMove 14 = .ok (.iadd, 1) := by decide +kernel
theorem dX4_tellMove_15 : decode cX4_tellMove 15 = .ok (.ireturn, 1) := by decide +kernel
theorem dJ9_floorMod_7cf53_0 : decode cJ9_floorMod_7cf53 0 = .ok (.iload_n 0, 1) := by decide +kernel
theorem dJ9_floorMod_7cf53_1 : decode cJ9_floorMod_7cf53 1 = .ok (.iload_n 1, 1) := by decide +kernel
theorem dJ9_floorMod_7cf53_2 : decode cJ9_floorMod_7cf53 2 = .ok (.irem, 1) := by decide +kernel
theorem dJ9_floorMod_7cf53_3 : decode cJ9_floorMod_7cf53 3 = .ok (.istore_n 2, 1) := by decide +kernel
theorem dJ9_floorMod_7cf53_4 : decode cJ9_floorMod_7cf53 4 = .ok (.iload_n 0, 1) := by decide +kernel
theorem dJ9_floorMod_7cf53_5 : decode cJ9_floorMod_7cf53 5 = .ok (.iload_n 1, 1) := by decide +kernel
theorem dJ9_floorMod_7cf53_6 : decode cJ9_floorMod_7cf53 6 = .ok (.ixor, 1) := by decide +kernel
theorem dJ9_floorMod_7cf53_7 : decode cJ9_floorMod_7cf53 7 = .ok (.ifCond .ge 11, 3) := by decide +kernel
theorem dJ9_floorMod_7cf53_10 : decode cJ9_floorMod_7cf53 10 = .ok (.iload_n 2, 1) := by decide +kernel
theorem dJ9_floorMod_7cf53_11 : decode cJ9_floorMod_7cf53 11 = .ok (.ifCond .eq 7, 3) := by decide +kernel
theorem dJ9_floorMod_7cf53_14 : decode cJ9_floorMod_7cf53 14 = .ok (.iload_n 2, 1) := by decide +kernel
theorem dJ9_floorMod_7cf53_15 : decode cJ9_floorMod_7cf53 15 = .ok (.iload_n 1, 1) := by decide +kernel
theorem dJ9_floorMod_7cf53_16 : decode cJ9_floorMod_7cf53 16 = .ok (.iadd, 1) := by decide +kernel
theorem dJ9_floorMod_7cf53_17 : decode cJ9_floorMod_7cf53 17 = .ok (.ireturn, 1) := by decide +kernel
theorem dJ9_floorMod_7cf53_18 : decode cJ9_floorMod_7cf53 18 = .ok (.iload_n 2, 1) := by decide +kernel
theorem dJ9_floorMod_7cf53_19 : decode cJ9_floorMod_7cf53 19 = .ok (.ireturn, 1) := by decide +kernel
theorem dJ9_abs_0f7a4_0 : decode cJ9_abs_0f7a4 0 = .ok (.iload_n 0, 1) := by decide +kernel
theorem dJ9_abs_0f7a4_1 : decode cJ9_abs_0f7a4 1 = .ok (.ifCond .ge 8, 3) := by decide +kernel
theorem dJ9_abs_0f7a4_4 : decode cJ9_abs_0f7a4 4 = .ok (.iload_n 0, 1) := by decide +kernel
theorem dJ9_abs_0f7a4_5 : decode cJ9_abs_0f7a4 5 = .ok (.ineg, 1) := by decide +kernel
theorem dJ9_abs_0f7a4_6 : decode cJ9_abs_0f7a4 6 = .ok (.goto 4, 3) := by decide +kernel
theorem dJ9_abs_0f7a4_9 : decode cJ9_abs_0f7a4 9 = .ok (.iload_n 0, 1) := by decide +kernel
theorem dJ9_abs_0f7a4_10 : decode cJ9_abs_0f7a4 10 = .ok (.ireturn, 1) := by decide +kernel
theorem dJ9_max_7cf53_0 : decode cJ9_max_7cf53 0 = .ok (.iload_n 0, 1) := by decide +kernel
theorem dJ9_max_7cf53_1 : decode cJ9_max_7cf53 1 = .ok (.iload_n 1, 1) := by decide +kernel
theorem dJ9_max_7cf53_2 : decode cJ9_max_7cf53 2 = .ok (.if_icmp .lt 7, 3) := by decide +kernel
theorem dJ9_max_7cf53_5 : decode cJ9_max_7cf53 5 = .ok (.iload_n 0, 1) := by decide +kernel
theorem dJ9_max_7cf53_6 : decode cJ9_max_7cf53 6 = .ok (.goto 4, 3) := by decide +kernel
theorem dJ9_max_7cf53_9 : decode cJ9_max_7cf53 9 = .ok (.iload_n 1, 1) := by decide +kernel
theorem dJ9_max_7cf53_10 : decode cJ9_max_7cf53 10 = .ok (.ireturn, 1) := by decide +kernel
theorem dL_cell_0 : decode cL_cell 0 = .ok (.iload_n 1, 1) := by decide +kernel
theorem dL_cell_1 : decode cL_cell 1 = .ok (.aload_n 0, 1) := by decide +kernel
theorem dL_cell_2 : decode cL_cell 2 = .ok (.arraylength, 1) := by decide +kernel
theorem dL_cell_3 : decode cL_cell 3 = .ok (.if_icmp .ge 9, 3) := by decide +kernel
theorem dL_cell_6 : decode cL_cell 6 = .ok (.aload_n 0, 1) := by decide +kernel
theorem dL_cell_7 : decode cL_cell 7 = .ok (.iload_n 1, 1) := by decide +kernel
theorem dL_cell_8 : decode cL_cell 8 = .ok (.iaload, 1) := by decide +kernel
theorem dL_cell_9 : decode cL_cell 9 = .ok (.goto 10, 3) := by decide +kernel
theorem dL_cell_12 : decode cL_cell 12 = .ok (.ldc 7, 2) := by decide +kernel
theorem dL_cell_14 : decode cL_cell 14 = .ok (.iload_n 1, 1) := by decide +kernel
theorem dL_cell_15 : decode cL_cell 15 = .ok (.imul, 1) := by decide +kernel
theorem dL_cell_16 : decode cL_cell 16 = .ok (.ldc 8, 2) := by decide +kernel
theorem dL_cell_18 : decode cL_cell 18 = .ok (.iadd, 1) := by decide +kernel
theorem dL_cell_19 : decode cL_cell 19 = .ok (.ireturn, 1) := by decide +kernel
theorem dL_low_0 : decode cL_low 0 = .ok (.iload_n 0, 1) := by decide +kernel
theorem dL_low_1 : decode cL_low 1 = .ok (.ldc 9, 2) := by decide +kernel
theorem dL_low_3 : decode cL_low 3 = .ok (.iand, 1) := by decide +kernel
theorem dL_low_4 : decode cL_low 4 = .ok (.iload_n 1, 1) := by decide +kernel
theorem dL_low_5 : decode cL_low 5 = .ok (.irem, 1) := by decide +kernel
theorem dL_low_6 : decode cL_low 6 = .ok (.ireturn, 1) := by decide +kernel
theorem dL_place_0 : decode cL_place 0 = .ok (.iload_n 0, 1) := by decide +kernel
theorem dL_place_1 : decode cL_place 1 = .ok (.bipush 6, 2) := by decide +kernel
theorem dL_place_3 : decode cL_place 3 = .ok (.if_icmp .ge 10, 3) := by decide +kernel
theorem dL_place_6 : decode cL_place 6 = .ok (.iload_n 0, 1) := by decide +kernel
theorem dL_place_7 : decode cL_place 7 = .ok (.bipush 6, 2) := by decide +kernel
theorem dL_place_9 : decode cL_place 9 = .ok (.isub, 1) := by decide +kernel
theorem dL_place_10 : decode cL_place 10 = .ok (.goto 6, 3) := by decide +kernel
theorem dL_place_13 : decode cL_place 13 = .ok (.iload_n 0, 1) := by decide +kernel
theorem dL_place_14 : decode cL_place 14 = .ok (.iconst 5, 1) := by decide +kernel
theorem dL_place_15 : decode cL_place 15 = .ok (.isub, 1) := by decide +kernel
theorem dL_place_16 : decode cL_place 16 = .ok (.ireturn, 1) := by decide +kernel
theorem dL_index_0 : decode cL_index 0 = .ok (.iload_n 0, 1) := by decide +kernel
theorem dL_index_1 : decode cL_index 1 = .ok (.ifCond .ge 10, 3) := by decide +kernel
theorem dL_index_4 : decode cL_index 4 = .ok (.iload_n 0, 1) := by decide +kernel
theorem dL_index_5 : decode cL_index 5 = .ok (.bipush 6, 2) := by decide +kernel
theorem dL_index_7 : decode cL_index 7 = .ok (.iadd, 1) := by decide +kernel
theorem dL_index_8 : decode cL_index 8 = .ok (.goto 6, 3) := by decide +kernel
theorem dL_index_11 : decode cL_index 11 = .ok (.iload_n 0, 1) := by decide +kernel
theorem dL_index_12 : decode cL_index 12 = .ok (.iconst 5, 1) := by decide +kernel
theorem dL_index_13 : decode cL_index 13 = .ok (.iadd, 1) := by decide +kernel
theorem dL_index_14 : decode cL_index 14 = .ok (.ireturn, 1) := by decide +kernel
theorem dL_turn_0 : decode cL_turn 0 = .ok (.iconst 0, 1) := by decide +kernel
theorem dL_turn_1 : decode cL_turn 1 = .ok (.istore_n 1, 1) := by decide +kernel
theorem dL_turn_2 : decode cL_turn 2 = .ok (.iconst 0, 1) := by decide +kernel
theorem dL_turn_3 : decode cL_turn 3 = .ok (.istore_n 2, 1) := by decide +kernel
theorem dL_turn_4 : decode cL_turn 4 = .ok (.iload_n 2, 1) := by decide +kernel
theorem dL_turn_5 : decode cL_turn 5 = .ok (.bipush 48, 2) := by decide +kernel
theorem dL_turn_7 : decode cL_turn 7 = .ok (.if_icmp .ge 40, 3) := by decide +kernel
theorem dL_turn_10 : decode cL_turn 10 = .ok (.iload_n 1, 1) := by decide +kernel
theorem dL_turn_11 : decode cL_turn 11 = .ok (.iload_n 2, 1) := by decide +kernel
theorem dL_turn_12 : decode cL_turn 12 = .ok (.iconst 4, 1) := by decide +kernel
theorem dL_turn_13 : decode cL_turn 13 = .ok (.irem, 1) := by decide +kernel
theorem dL_turn_14 : decode cL_turn 14 = .ok (.aload_n 0, 1) := by decide +kernel
theorem dL_turn_15 : decode cL_turn 15 = .ok (.bipush 48, 2) := by decide +kernel
theorem dL_turn_17 : decode cL_turn 17 = .ok (.iload_n 2, 1) := by decide +kernel
theorem dL_turn_18 : decode cL_turn 18 = .ok (.iconst 4, 1) := by decide +kernel
theorem dL_turn_19 : decode cL_turn 19 = .ok (.idiv, 1) := by decide +kernel
theorem dL_turn_20 : decode cL_turn 20 = .ok (.iadd, 1) := by decide +kernel
theorem dL_turn_21 : decode cL_turn 21 = .ok (.iaload, 1) := by decide +kernel
theorem dL_turn_22 : decode cL_turn 22 = .ok (.if_icmp .ge 16, 3) := by decide +kernel
theorem dL_turn_25 : decode cL_turn 25 = .ok (.aload_n 0, 1) := by decide +kernel
theorem dL_turn_26 : decode cL_turn 26 = .ok (.iload_n 2, 1) := by decide +kernel
theorem dL_turn_27 : decode cL_turn 27 = .ok (.iaload, 1) := by decide +kernel
theorem dL_turn_28 : decode cL_turn 28 = .ok (.iload_n 2, 1) := by decide +kernel
theorem dL_turn_29 : decode cL_turn 29 = .ok (.iconst 4, 1) := by decide +kernel
theorem dL_turn_30 : decode cL_turn 30 = .ok (.idiv, 1) := by decide +kernel
theorem dL_turn_31 : decode cL_turn 31 = .ok (.invokestatic 10, 3) := by decide +kernel
theorem dL_turn_34 : decode cL_turn 34 = .ok (.imul, 1) := by decide +kernel
theorem dL_turn_35 : decode cL_turn 35 = .ok (.goto 4, 3) := by decide +kernel
theorem dL_turn_38 : decode cL_turn 38 = .ok (.iconst 0, 1) := by decide +kernel
theorem dL_turn_39 : decode cL_turn 39 = .ok (.iadd, 1) := by decide +kernel
theorem dL_turn_40 : decode cL_turn 40 = .ok (.istore_n 1, 1) := by decide +kernel
theorem dL_turn_41 : decode cL_turn 41 = .ok (.iinc 2 1, 3) := by decide +kernel
theorem dL_turn_44 : decode cL_turn 44 = .ok (.goto (-40), 3) := by decide +kernel
theorem dL_turn_47 : decode cL_turn 47 = .ok (.iload_n 1, 1) := by decide +kernel
theorem dL_turn_48 : decode cL_turn 48 = .ok (.ireturn, 1) := by decide +kernel
theorem dL_all_0 : decode cL_all 0 = .ok (.iconst 0, 1) := by decide +kernel
theorem dL_all_1 : decode cL_all 1 = .ok (.istore_n 2, 1) := by decide +kernel
theorem dL_all_2 : decode cL_all 2 = .ok (.iconst 0, 1) := by decide +kernel
theorem dL_all_3 : decode cL_all 3 = .ok (.istore_n 3, 1) := by decide +kernel
theorem dL_all_4 : decode cL_all 4 = .ok (.iload_n 3, 1) := by decide +kernel
theorem dL_all_5 : decode cL_all 5 = .ok (.iconst 5, 1) := by decide +kernel
theorem dL_all_6 : decode cL_all 6 = .ok (.if_icmp .ge 19, 3) := by decide +kernel
theorem dL_all_9 : decode cL_all 9 = .ok (.iload_n 2, 1) := by decide +kernel
theorem dL_all_10 : decode cL_all 10 = .ok (.aload_n 0, 1) := by decide +kernel
theorem dL_all_11 : decode cL_all 11 = .ok (.iconst 5, 1) := by decide +kernel
theorem dL_all_12 : decode cL_all 12 = .ok (.iload_n 1, 1) := by decide +kernel
theorem dL_all_13 : decode cL_all 13 = .ok (.imul, 1) := by decide +kernel
theorem dL_all_14 : decode cL_all 14 = .ok (.iload_n 3, 1) := by decide +kernel
theorem dL_all_15 : decode cL_all 15 = .ok (.iadd, 1) := by decide +kernel
theorem dL_all_16 : decode cL_all 16 = .ok (.iaload, 1) := by decide +kernel
theorem dL_all_17 : decode cL_all 17 = .ok (.iadd, 1) := by decide +kernel
theorem dL_all_18 : decode cL_all 18 = .ok (.istore_n 2, 1) := by decide +kernel
theorem dL_all_19 : decode cL_all 19 = .ok (.iinc 3 1, 3) := by decide +kernel
theorem dL_all_22 : decode cL_all 22 = .ok (.goto (-18), 3) := by decide +kernel
theorem dL_all_25 : decode cL_all 25 = .ok (.iload_n 2, 1) := by decide +kernel
theorem dL_all_26 : decode cL_all 26 = .ok (.ireturn, 1) := by decide +kernel
theorem dL_result_0 : decode cL_result 0 = .ok (.aload_n 0, 1) := by decide +kernel
theorem dL_result_1 : decode cL_result 1 = .ok (.invokestatic 16, 3) := by decide +kernel
theorem dL_result_4 : decode cL_result 4 = .ok (.istore_n 3, 1) := by decide +kernel
theorem dL_result_5 : decode cL_result 5 = .ok (.iload_n 3, 1) := by decide +kernel
theorem dL_result_6 : decode cL_result 6 = .ok (.aload_n 2, 1) := by decide +kernel
theorem dL_result_7 : decode cL_result 7 = .ok (.iconst 1, 1) := by decide +kernel
theorem dL_result_8 : decode cL_result 8 = .ok (.iaload, 1) := by decide +kernel
theorem dL_result_9 : decode cL_result 9 = .ok (.if_icmp .gt 11, 3) := by decide +kernel
theorem dL_result_12 : decode cL_result 12 = .ok (.iload_n 3, 1) := by decide +kernel
theorem dL_result_13 : decode cL_result 13 = .ok (.ineg, 1) := by decide +kernel
theorem dL_result_14 : decode cL_result 14 = .ok (.aload_n 2, 1) := by decide +kernel
theorem dL_result_15 : decode cL_result 15 = .ok (.iconst 1, 1) := by decide +kernel
theorem dL_result_16 : decode cL_result 16 = .ok (.iaload, 1) := by decide +kernel
theorem dL_result_17 : decode cL_result 17 = .ok (.if_icmp .le 26, 3) := by decide +kernel
theorem dL_result_20 : decode cL_result 20 = .ok (.aload_n 2, 1) := by decide +kernel
theorem dL_result_21 : decode cL_result 21 = .ok (.iconst 3, 1) := by decide +kernel
theorem dL_result_22 : decode cL_result 22 = .ok (.iaload, 1) := by decide +kernel
theorem dL_result_23 : decode cL_result 23 = .ok (.iconst 1, 1) := by decide +kernel
theorem dL_result_24 : decode cL_result 24 = .ok (.if_icmp .ne 12, 3) := by decide +kernel
theorem dL_result_27 : decode cL_result 27 = .ok (.aload_n 2, 1) := by decide +kernel
theorem dL_result_28 : decode cL_result 28 = .ok (.bipush 9, 2) := by decide +kernel
theorem dL_result_30 : decode cL_result 30 = .ok (.iaload, 1) := by decide +kernel
theorem dL_result_31 : decode cL_result 31 = .ok (.iconst 1, 1) := by decide +kernel
theorem dL_result_32 : decode cL_result 32 = .ok (.iadd, 1) := by decide +kernel
theorem dL_result_33 : decode cL_result 33 = .ok (.goto 9, 3) := by decide +kernel
theorem dL_result_36 : decode cL_result 36 = .ok (.iconst 2, 1) := by decide +kernel
theorem dL_result_37 : decode cL_result 37 = .ok (.aload_n 2, 1) := by decide +kernel
theorem dL_result_38 : decode cL_result 38 = .ok (.bipush 9, 2) := by decide +kernel
theorem dL_result_40 : decode cL_result 40 = .ok (.iaload, 1) := by decide +kernel
theorem dL_result_41 : decode cL_result 41 = .ok (.isub, 1) := by decide +kernel
theorem dL_result_42 : decode cL_result 42 = .ok (.ireturn, 1) := by decide +kernel
theorem dL_result_43 : decode cL_result 43 = .ok (.aload_n 1, 1) := by decide +kernel
theorem dL_result_44 : decode cL_result 44 = .ok (.iconst 0, 1) := by decide +kernel
theorem dL_result_45 : decode cL_result 45 = .ok (.invokestatic 20, 3) := by decide +kernel
theorem dL_result_48 : decode cL_result 48 = .ok (.aload_n 1, 1) := by decide +kernel
theorem dL_result_49 : decode cL_result 49 = .ok (.iconst 1, 1) := by decide +kernel
theorem dL_result_50 : decode cL_result 50 = .ok (.invokestatic 20, 3) := by decide +kernel
theorem dL_result_53 : decode cL_result 53 = .ok (.iadd, 1) := by decide +kernel
theorem dL_result_54 : decode cL_result 54 = .ok (.ifCond .le 7, 3) := by decide +kernel
theorem dL_result_57 : decode cL_result 57 = .ok (.iconst 0, 1) := by decide +kernel
theorem dL_result_58 : decode cL_result 58 = .ok (.goto 4, 3) := by decide +kernel
theorem dL_result_61 : decode cL_result 61 = .ok (.iconst 3, 1) := by decide +kernel
theorem dL_result_62 : decode cL_result 62 = .ok (.ireturn, 1) := by decide +kernel
theorem dL_goal_0 : decode cL_goal 0 = .ok (.iload_n 0, 1) := by decide +kernel
theorem dL_goal_1 : decode cL_goal 1 = .ok (.bipush 6, 2) := by decide +kernel
theorem dL_goal_3 : decode cL_goal 3 = .ok (.if_icmp .ge 5, 3) := by decide +kernel
theorem dL_goal_6 : decode cL_goal 6 = .ok (.iload_n 1, 1) := by decide +kernel
theorem dL_goal_7 : decode cL_goal 7 = .ok (.ireturn, 1) := by decide +kernel
theorem dL_goal_8 : decode cL_goal 8 = .ok (.iload_n 1, 1) := by decide +kernel
theorem dL_goal_9 : decode cL_goal 9 = .ok (.ifCond .ge 8, 3) := by decide +kernel
theorem dL_goal_12 : decode cL_goal 12 = .ok (.iload_n 1, 1) := by decide +kernel
theorem dL_goal_13 : decode cL_goal 13 = .ok (.ineg, 1) := by decide +kernel
theorem dL_goal_14 : decode cL_goal 14 = .ok (.goto 4, 3) := by decide +kernel
theorem dL_goal_17 : decode cL_goal 17 = .ok (.iload_n 1, 1) := by decide +kernel
theorem dL_goal_18 : decode cL_goal 18 = .ok (.istore_n 2, 1) := by decide +kernel
theorem dL_goal_19 : decode cL_goal 19 = .ok (.iload_n 1, 1) := by decide +kernel
theorem dL_goal_20 : decode cL_goal 20 = .ok (.ifCond .ge 7, 3) := by decide +kernel
theorem dL_goal_23 : decode cL_goal 23 = .ok (.iconst (-1), 1) := by decide +kernel
theorem dL_goal_24 : decode cL_goal 24 = .ok (.goto 4, 3) := by decide +kernel
theorem dL_goal_27 : decode cL_goal 27 = .ok (.iconst 1, 1) := by decide +kernel
theorem dL_goal_28 : decode cL_goal 28 = .ok (.istore_n 3, 1) := by decide +kernel
theorem dL_goal_29 : decode cL_goal 29 = .ok (.iload_n 0, 1) := by decide +kernel
theorem dL_goal_30 : decode cL_goal 30 = .ok (.bipush 6, 2) := by decide +kernel
theorem dL_goal_32 : decode cL_goal 32 = .ok (.if_icmp .ne 19, 3) := by decide +kernel
theorem dL_goal_35 : decode cL_goal 35 = .ok (.iload_n 2, 1) := by decide +kernel
theorem dL_goal_36 : decode cL_goal 36 = .ok (.iconst 1, 1) := by decide +kernel
theorem dL_goal_37 : decode cL_goal 37 = .ok (.if_icmp .ne 8, 3) := by decide +kernel
theorem dL_goal_40 : decode cL_goal 40 = .ok (.iload_n 1, 1) := by decide +kernel
theorem dL_goal_41 : decode cL_goal 41 = .ok (.ineg, 1) := by decide +kernel
theorem dL_goal_42 : decode cL_goal 42 = .ok (.goto 8, 3) := by decide +kernel
theorem dL_goal_45 : decode cL_goal 45 = .ok (.iload_n 3, 1) := by decide +kernel
theorem dL_goal_46 : decode cL_goal 46 = .ok (.iload_n 2, 1) := by decide +kernel
theorem dL_goal_47 : decode cL_goal 47 = .ok (.iconst 1, 1) := by decide +kernel
theorem dL_goal_48 : decode cL_goal 48 = .ok (.isub, 1) := by decide +kernel
theorem dL_goal_49 : decode cL_goal 49 = .ok (.imul, 1) := by decide +kernel
theorem dL_goal_50 : decode cL_goal 50 = .ok (.ireturn, 1) := by decide +kernel
theorem dL_goal_51 : decode cL_goal 51 = .ok (.iload_n 2, 1) := by decide +kernel
theorem dL_goal_52 : decode cL_goal 52 = .ok (.bipush 6, 2) := by decide +kernel
theorem dL_goal_54 : decode cL_goal 54 = .ok (.if_icmp .ne 7, 3) := by decide +kernel
theorem dL_goal_57 : decode cL_goal 57 = .ok (.iconst 0, 1) := by decide +kernel
theorem dL_goal_58 : decode cL_goal 58 = .ok (.goto 8, 3) := by decide +kernel
theorem dL_goal_61 : decode cL_goal 61 = .ok (.iload_n 3, 1) := by decide +kernel
theorem dL_goal_62 : decode cL_goal 62 = .ok (.iload_n 2, 1) := by decide +kernel
theorem dL_goal_63 : decode cL_goal 63 = .ok (.iconst 1, 1) := by decide +kernel
theorem dL_goal_64 : decode cL_goal 64 = .ok (.iadd, 1) := by decide +kernel
theorem dL_goal_65 : decode cL_goal 65 = .ok (.imul, 1) := by decide +kernel
theorem dL_goal_66 : decode cL_goal 66 = .ok (.ireturn, 1) := by decide +kernel
theorem dL_why_0 : decode cL_why 0 = .ok (.aload_n 0, 1) := by decide +kernel
theorem dL_why_1 : decode cL_why 1 = .ok (.aload_n 1, 1) := by decide +kernel
theorem dL_why_2 : decode cL_why 2 = .ok (.aload_n 2, 1) := by decide +kernel
theorem dL_why_3 : decode cL_why 3 = .ok (.invokestatic 24, 3) := by decide +kernel
theorem dL_why_6 : decode cL_why 6 = .ok (.ifCond .le 5, 3) := by decide +kernel
theorem dL_why_9 : decode cL_why 9 = .ok (.iconst 1, 1) := by decide +kernel
theorem dL_why_10 : decode cL_why 10 = .ok (.ireturn, 1) := by decide +kernel
theorem dL_why_11 : decode cL_why 11 = .ok (.iload_n 3, 1) := by decide +kernel
theorem dL_why_12 : decode cL_why 12 = .ok (.iconst 5, 1) := by decide +kernel
theorem dL_why_13 : decode cL_why 13 = .ok (.if_icmp .le 12, 3) := by decide +kernel
theorem dL_why_16 : decode cL_why 16 = .ok (.aload_n 2, 1) := by decide +kernel
theorem dL_why_17 : decode cL_why 17 = .ok (.iconst 2, 1) := by decide +kernel
theorem dL_why_18 : decode cL_why 18 = .ok (.iaload, 1) := by decide +kernel
theorem dL_why_19 : decode cL_why 19 = .ok (.ifCond .ne 22, 3) := by decide +kernel
theorem dL_why_22 : decode cL_why 22 = .ok (.goto 17, 3) := by decide +kernel
theorem dL_why_25 : decode cL_why 25 = .ok (.aload_n 1, 1) := by decide +kernel
theorem dL_why_26 : decode cL_why 26 = .ok (.iconst 5, 1) := by decide +kernel
theorem dL_why_27 : decode cL_why 27 = .ok (.aload_n 2, 1) := by decide +kernel
theorem dL_why_28 : decode cL_why 28 = .ok (.iconst 4, 1) := by decide +kernel
theorem dL_why_29 : decode cL_why 29 = .ok (.iaload, 1) := by decide +kernel
theorem dL_why_30 : decode cL_why 30 = .ok (.imul, 1) := by decide +kernel
theorem dL_why_31 : decode cL_why 31 = .ok (.iload_n 3, 1) := by decide +kernel
theorem dL_why_32 : decode cL_why 32 = .ok (.iadd, 1) := by decide +kernel
theorem dL_why_33 : decode cL_why 33 = .ok (.iconst 1, 1) := by decide +kernel
theorem dL_why_34 : decode cL_why 34 = .ok (.isub, 1) := by decide +kernel
theorem dL_why_35 : decode cL_why 35 = .ok (.iaload, 1) := by decide +kernel
theorem dL_why_36 : decode cL_why 36 = .ok (.ifCond .ne 5, 3) := by decide +kernel
theorem dL_why_39 : decode cL_why 39 = .ok (.iconst 2, 1) := by decide +kernel
theorem dL_why_40 : decode cL_why 40 = .ok (.ireturn, 1) := by decide +kernel
theorem dL_why_41 : decode cL_why 41 = .ok (.iload_n 3, 1) := by decide +kernel
theorem dL_why_42 : decode cL_why 42 = .ok (.iconst 5, 1) := by decide +kernel
theorem dL_why_43 : decode cL_why 43 = .ok (.if_icmp .le 27, 3) := by decide +kernel
theorem dL_why_46 : decode cL_why 46 = .ok (.aload_n 0, 1) := by decide +kernel
theorem dL_why_47 : decode cL_why 47 = .ok (.bipush 48, 2) := by decide +kernel
theorem dL_why_49 : decode cL_why 49 = .ok (.iload 4, 2) := by decide +kernel
theorem dL_why_51 : decode cL_why 51 = .ok (.invokestatic 28, 3) := by decide +kernel
theorem dL_why_54 : decode cL_why 54 = .ok (.iadd, 1) := by decide +kernel
theorem dL_why_55 : decode cL_why 55 = .ok (.iaload, 1) := by decide +kernel
theorem dL_why_56 : decode cL_why 56 = .ok (.ifCond .eq 12, 3) := by decide +kernel
theorem dL_why_59 : decode cL_why 59 = .ok (.aload_n 2, 1) := by decide +kernel
theorem dL_why_60 : decode cL_why 60 = .ok (.bipush 10, 2) := by decide +kernel
theorem dL_why_62 : decode cL_why 62 = .ok (.iaload, 1) := by decide +kernel
theorem dL_why_63 : decode cL_why 63 = .ok (.iload 4, 2) := by decide +kernel
theorem dL_why_65 : decode cL_why 65 = .ok (.if_icmp .ne 5, 3) := by decide +kernel
theorem dL_why_68 : decode cL_why 68 = .ok (.iconst 3, 1) := by decide +kernel
theorem dL_why_69 : decode cL_why 69 = .ok (.ireturn, 1) := by decide +kernel
theorem dL_why_70 : decode cL_why 70 = .ok (.iload_n 3, 1) := by decide +kernel
theorem dL_why_71 : decode cL_why 71 = .ok (.iload 4, 2) := by decide +kernel
theorem dL_why_73 : decode cL_why 73 = .ok (.invokestatic 31, 3) := by decide +kernel
theorem dL_why_76 : decode cL_why 76 = .ok (.istore 5, 2) := by decide +kernel
theorem dL_why_78 : decode cL_why 78 = .ok (.iload 5, 2) := by decide +kernel
theorem dL_why_80 : decode cL_why 80 = .ok (.ifCond .ne 7, 3) := by decide +kernel
theorem dL_why_83 : decode cL_why 83 = .ok (.iconst 4, 1) := by decide +kernel
theorem dL_why_84 : decode cL_why 84 = .ok (.goto 24, 3) := by decide +kernel
theorem dL_why_87 : decode cL_why 87 = .ok (.aload_n 0, 1) := by decide +kernel
theorem dL_why_88 : decode cL_why 88 = .ok (.bipush 48, 2) := by decide +kernel
theorem dL_why_90 : decode cL_why 90 = .ok (.iload 5, 2) := by decide +kernel
theorem dL_why_92 : decode cL_why 92 = .ok (.invokestatic 28, 3) := by decide +kernel
theorem dL_why_95 : decode cL_why 95 = .ok (.iadd, 1) := by decide +kernel
theorem dL_why_96 : decode cL_why 96 = .ok (.iaload, 1) := by decide +kernel
theorem dL_why_97 : decode cL_why 97 = .ok (.aload_n 2, 1) := by decide +kernel
theorem dL_why_98 : decode cL_why 98 = .ok (.iconst 0, 1) := by decide +kernel
theorem dL_why_99 : decode cL_why 99 = .ok (.iaload, 1) := by decide +kernel
theorem dL_why_100 : decode cL_why 100 = .ok (.if_icmp .ge 7, 3) := by decide +kernel
theorem dL_why_103 : decode cL_why 103 = .ok (.iconst 0, 1) := by decide +kernel
theorem dL_why_104 : decode cL_why 104 = .ok (.goto 4, 3) := by decide +kernel
theorem dL_why_107 : decode cL_why 107 = .ok (.iconst 4, 1) := by decide +kernel
theorem dL_why_108 : decode cL_why 108 = .ok (.ireturn, 1) := by decide +kernel
theorem dL_put_0 : decode cL_put 0 = .ok (.iload_n 1, 1) := by decide +kernel
theorem dL_put_1 : decode cL_put 1 = .ok (.invokestatic 28, 3) := by decide +kernel
theorem dL_put_4 : decode cL_put 4 = .ok (.istore_n 3, 1) := by decide +kernel
theorem dL_put_5 : decode cL_put 5 = .ok (.aload_n 0, 1) := by decide +kernel
theorem dL_put_6 : decode cL_put 6 = .ok (.iconst 4, 1) := by decide +kernel
theorem dL_put_7 : decode cL_put 7 = .ok (.iload_n 3, 1) := by decide +kernel
theorem dL_put_8 : decode cL_put 8 = .ok (.imul, 1) := by decide +kernel
theorem dL_put_9 : decode cL_put 9 = .ok (.aload_n 0, 1) := by decide +kernel
theorem dL_put_10 : decode cL_put 10 = .ok (.bipush 48, 2) := by decide +kernel
theorem dL_put_12 : decode cL_put 12 = .ok (.iload_n 3, 1) := by decide +kernel
theorem dL_put_13 : decode cL_put 13 = .ok (.iadd, 1) := by decide +kernel
theorem dL_put_14 : decode cL_put 14 = .ok (.iaload, 1) := by decide +kernel
theorem dL_put_15 : decode cL_put 15 = .ok (.iadd, 1) := by decide +kernel
theorem dL_put_16 : decode cL_put 16 = .ok (.iload_n 2, 1) := by decide +kernel
theorem dL_put_17 : decode cL_put 17 = .ok (.iastore, 1) := by decide +kernel
theorem dL_put_18 : decode cL_put 18 = .ok (.aload_n 0, 1) := by decide +kernel
theorem dL_put_19 : decode cL_put 19 = .ok (.bipush 48, 2) := by decide +kernel
theorem dL_put_21 : decode cL_put 21 = .ok (.iload_n 3, 1) := by decide +kernel
theorem dL_put_22 : decode cL_put 22 = .ok (.iadd, 1) := by decide +kernel
theorem dL_put_23 : decode cL_put 23 = .ok (.dup2, 1) := by decide +kernel
theorem dL_put_24 : decode cL_put 24 = .ok (.iaload, 1) := by decide +kernel
theorem dL_put_25 : decode cL_put 25 = .ok (.iconst 1, 1) := by decide +kernel
theorem dL_put_26 : decode cL_put 26 = .ok (.iadd, 1) := by decide +kernel
theorem dL_put_27 : decode cL_put 27 = .ok (.iastore, 1) := by decide +kernel
theorem dL_put_28 : decode cL_put 28 = .ok (.return_, 1) := by decide +kernel
theorem dL_move_0 : decode cL_move 0 = .ok (.iload_n 3, 1) := by decide +kernel
theorem dL_move_1 : decode cL_move 1 = .ok (.iload 4, 2) := by decide +kernel
theorem dL_move_3 : decode cL_move 3 = .ok (.invokestatic 31, 3) := by decide +kernel
theorem dL_move_6 : decode cL_move 6 = .ok (.istore 5, 2) := by decide +kernel
theorem dL_move_8 : decode cL_move 8 = .ok (.iload_n 3, 1) := by decide +kernel
theorem dL_move_9 : decode cL_move 9 = .ok (.istore 6, 2) := by decide +kernel
theorem dL_move_11 : decode cL_move 11 = .ok (.iload_n 3, 1) := by decide +kernel
theorem dL_move_12 : decode cL_move 12 = .ok (.iconst 5, 1) := by decide +kernel
theorem dL_move_13 : decode cL_move 13 = .ok (.if_icmp .le 40, 3) := by decide +kernel
theorem dL_move_16 : decode cL_move 16 = .ok (.iload 4, 2) := by decide +kernel
theorem dL_move_18 : decode cL_move 18 = .ok (.invokestatic 28, 3) := by decide +kernel
theorem dL_move_21 : decode cL_move 21 = .ok (.istore 7, 2) := by decide +kernel
theorem dL_move_23 : decode cL_move 23 = .ok (.aload_n 0, 1) := by decide +kernel
theorem dL_move_24 : decode cL_move 24 = .ok (.bipush 48, 2) := by decide +kernel
theorem dL_move_26 : decode cL_move 26 = .ok (.iload 7, 2) := by decide +kernel
theorem dL_move_28 : decode cL_move 28 = .ok (.iadd, 1) := by decide +kernel
theorem dL_move_29 : decode cL_move 29 = .ok (.dup2, 1) := by decide +kernel
theorem dL_move_30 : decode cL_move 30 = .ok (.iaload, 1) := by decide +kernel
theorem dL_move_31 : decode cL_move 31 = .ok (.iconst 1, 1) := by decide +kernel
theorem dL_move_32 : decode cL_move 32 = .ok (.isub, 1) := by decide +kernel
theorem dL_move_33 : decode cL_move 33 = .ok (.iastore, 1) := by decide +kernel
theorem dL_move_34 : decode cL_move 34 = .ok (.aload_n 0, 1) := by decide +kernel
theorem dL_move_35 : decode cL_move 35 = .ok (.iconst 4, 1) := by decide +kernel
theorem dL_move_36 : decode cL_move 36 = .ok (.iload 7, 2) := by decide +kernel
theorem dL_move_38 : decode cL_move 38 = .ok (.imul, 1) := by decide +kernel
theorem dL_move_39 : decode cL_move 39 = .ok (.aload_n 0, 1) := by decide +kernel
theorem dL_move_40 : decode cL_move 40 = .ok (.bipush 48, 2) := by decide +kernel
theorem dL_move_42 : decode cL_move 42 = .ok (.iload 7, 2) := by decide +kernel
theorem dL_move_44 : decode cL_move 44 = .ok (.iadd, 1) := by decide +kernel
theorem dL_move_45 : decode cL_move 45 = .ok (.iaload, 1) := by decide +kernel
theorem dL_move_46 : decode cL_move 46 = .ok (.iadd, 1) := by decide +kernel
theorem dL_move_47 : decode cL_move 47 = .ok (.iaload, 1) := by decide +kernel
theorem dL_move_48 : decode cL_move 48 = .ok (.istore 6, 2) := by decide +kernel
theorem dL_move_50 : decode cL_move 50 = .ok (.goto 18, 3) := by decide +kernel
theorem dL_move_53 : decode cL_move 53 = .ok (.aload_n 1, 1) := by decide +kernel
theorem dL_move_54 : decode cL_move 54 = .ok (.iconst 5, 1) := by decide +kernel
theorem dL_move_55 : decode cL_move 55 = .ok (.aload_n 2, 1) := by decide +kernel
theorem dL_move_56 : decode cL_move 56 = .ok (.iconst 4, 1) := by decide +kernel
theorem dL_move_57 : decode cL_move 57 = .ok (.iaload, 1) := by decide +kernel
theorem dL_move_58 : decode cL_move 58 = .ok (.imul, 1) := by decide +kernel
theorem dL_move_59 : decode cL_move 59 = .ok (.iload_n 3, 1) := by decide +kernel
theorem dL_move_60 : decode cL_move 60 = .ok (.iadd, 1) := by decide +kernel
theorem dL_move_61 : decode cL_move 61 = .ok (.iconst 1, 1) := by decide +kernel
theorem dL_move_62 : decode cL_move 62 = .ok (.isub, 1) := by decide +kernel
theorem dL_move_63 : decode cL_move 63 = .ok (.dup2, 1) := by decide +kernel
theorem dL_move_64 : decode cL_move 64 = .ok (.iaload, 1) := by decide +kernel
theorem dL_move_65 : decode cL_move 65 = .ok (.iconst 1, 1) := by decide +kernel
theorem dL_move_66 : decode cL_move 66 = .ok (.isub, 1) := by decide +kernel
theorem dL_move_67 : decode cL_move 67 = .ok (.iastore, 1) := by decide +kernel
theorem dL_move_68 : decode cL_move 68 = .ok (.aload_n 0, 1) := by decide +kernel
theorem dL_move_69 : decode cL_move 69 = .ok (.iload 5, 2) := by decide +kernel
theorem dL_move_71 : decode cL_move 71 = .ok (.iload 6, 2) := by decide +kernel
theorem dL_move_73 : decode cL_move 73 = .ok (.invokestatic 35, 3) := by decide +kernel
theorem dL_move_76 : decode cL_move 76 = .ok (.aload_n 2, 1) := by decide +kernel
theorem dL_move_77 : decode cL_move 77 = .ok (.bipush 10, 2) := by decide +kernel
theorem dL_move_79 : decode cL_move 79 = .ok (.iload_n 3, 1) := by decide +kernel
theorem dL_move_80 : decode cL_move 80 = .ok (.iconst 5, 1) := by decide +kernel
theorem dL_move_81 : decode cL_move 81 = .ok (.if_icmp .le 8, 3) := by decide +kernel
theorem dL_move_84 : decode cL_move 84 = .ok (.iload 5, 2) := by decide +kernel
theorem dL_move_86 : decode cL_move 86 = .ok (.goto 4, 3) := by decide +kernel
theorem dL_move_89 : decode cL_move 89 = .ok (.iconst 0, 1) := by decide +kernel
theorem dL_move_90 : decode cL_move 90 = .ok (.iastore, 1) := by decide +kernel
theorem dL_move_91 : decode cL_move 91 = .ok (.aload_n 2, 1) := by decide +kernel
theorem dL_move_92 : decode cL_move 92 = .ok (.bipush 9, 2) := by decide +kernel
theorem dL_move_94 : decode cL_move 94 = .ok (.aload_n 2, 1) := by decide +kernel
theorem dL_move_95 : decode cL_move 95 = .ok (.iconst 4, 1) := by decide +kernel
theorem dL_move_96 : decode cL_move 96 = .ok (.iaload, 1) := by decide +kernel
theorem dL_move_97 : decode cL_move 97 = .ok (.iastore, 1) := by decide +kernel
theorem dL_move_98 : decode cL_move 98 = .ok (.aload_n 2, 1) := by decide +kernel
theorem dL_move_99 : decode cL_move 99 = .ok (.iconst 2, 1) := by decide +kernel
theorem dL_move_100 : decode cL_move 100 = .ok (.iaload, 1) := by decide +kernel
theorem dL_move_101 : decode cL_move 101 = .ok (.ifCond .ne 29, 3) := by decide +kernel
theorem dL_move_104 : decode cL_move 104 = .ok (.aload_n 1, 1) := by decide +kernel
theorem dL_move_105 : decode cL_move 105 = .ok (.iconst 1, 1) := by decide +kernel
theorem dL_move_106 : decode cL_move 106 = .ok (.aload_n 2, 1) := by decide +kernel
theorem dL_move_107 : decode cL_move 107 = .ok (.iconst 4, 1) := by decide +kernel
theorem dL_move_108 : decode cL_move 108 = .ok (.iaload, 1) := by decide +kernel
theorem dL_move_109 : decode cL_move 109 = .ok (.isub, 1) := by decide +kernel
theorem dL_move_110 : decode cL_move 110 = .ok (.invokestatic 20, 3) := by decide +kernel
theorem dL_move_113 : decode cL_move 113 = .ok (.ifCond .ne 17, 3) := by decide +kernel
theorem dL_move_116 : decode cL_move 116 = .ok (.aload_n 1, 1) := by decide +kernel
theorem dL_move_117 : decode cL_move 117 = .ok (.aload_n 2, 1) := by decide +kernel
theorem dL_move_118 : decode cL_move 118 = .ok (.iconst 4, 1) := by decide +kernel
theorem dL_move_119 : decode cL_move 119 = .ok (.iaload, 1) := by decide +kernel
theorem dL_move_120 : decode cL_move 120 = .ok (.invokestatic 20, 3) := by decide +kernel
theorem dL_move_123 : decode cL_move 123 = .ok (.ifCond .le 7, 3) := by decide +kernel
theorem dL_move_126 : decode cL_move 126 = .ok (.iconst 1, 1) := by decide +kernel
theorem dL_move_127 : decode cL_move 127 = .ok (.goto 4, 3) := by decide +kernel
theorem dL_move_130 : decode cL_move 130 = .ok (.iconst 0, 1) := by decide +kernel
theorem dL_move_131 : decode cL_move 131 = .ok (.istore 7, 2) := by decide +kernel
theorem dL_move_133 : decode cL_move 133 = .ok (.aload_n 2, 1) := by decide +kernel
theorem dL_move_134 : decode cL_move 134 = .ok (.iconst 4, 1) := by decide +kernel
theorem dL_move_135 : decode cL_move 135 = .ok (.iload 7, 2) := by decide +kernel
theorem dL_move_137 : decode cL_move 137 = .ok (.ifCond .eq 9, 3) := by decide +kernel
theorem dL_move_140 : decode cL_move 140 = .ok (.aload_n 2, 1) := by decide +kernel
theorem dL_move_141 : decode cL_move 141 = .ok (.iconst 4, 1) := by decide +kernel
theorem dL_move_142 : decode cL_move 142 = .ok (.iaload, 1) := by decide +kernel
theorem dL_move_143 : decode cL_move 143 = .ok (.goto 8, 3) := by decide +kernel
theorem dL_move_146 : decode cL_move 146 = .ok (.iconst 1, 1) := by decide +kernel
theorem dL_move_147 : decode cL_move 147 = .ok (.aload_n 2, 1) := by decide +kernel
theorem dL_move_148 : decode cL_move 148 = .ok (.iconst 4, 1) := by decide +kernel
theorem dL_move_149 : decode cL_move 149 = .ok (.iaload, 1) := by decide +kernel
theorem dL_move_150 : decode cL_move 150 = .ok (.isub, 1) := by decide +kernel
theorem dL_move_151 : decode cL_move 151 = .ok (.iastore, 1) := by decide +kernel
theorem dL_move_152 : decode cL_move 152 = .ok (.return_, 1) := by decide +kernel
theorem dL_copy_0 : decode cL_copy 0 = .ok (.iconst 0, 1) := by decide +kernel
theorem dL_copy_1 : decode cL_copy 1 = .ok (.istore_n 2, 1) := by decide +kernel
theorem dL_copy_2 : decode cL_copy 2 = .ok (.iload_n 2, 1) := by decide +kernel
theorem dL_copy_3 : decode cL_copy 3 = .ok (.aload_n 0, 1) := by decide +kernel
theorem dL_copy_4 : decode cL_copy 4 = .ok (.arraylength, 1) := by decide +kernel
theorem dL_copy_5 : decode cL_copy 5 = .ok (.if_icmp .ge 15, 3) := by decide +kernel
theorem dL_copy_8 : decode cL_copy 8 = .ok (.aload_n 1, 1) := by decide +kernel
theorem dL_copy_9 : decode cL_copy 9 = .ok (.iload_n 2, 1) := by decide +kernel
theorem dL_copy_10 : decode cL_copy 10 = .ok (.aload_n 0, 1) := by decide +kernel
theorem dL_copy_11 : decode cL_copy 11 = .ok (.iload_n 2, 1) := by decide +kernel
theorem dL_copy_12 : decode cL_copy 12 = .ok (.iaload, 1) := by decide +kernel
theorem dL_copy_13 : decode cL_copy 13 = .ok (.iastore, 1) := by decide +kernel
theorem dL_copy_14 : decode cL_copy 14 = .ok (.iinc 2 1, 3) := by decide +kernel
theorem dL_copy_17 : decode cL_copy 17 = .ok (.goto (-15), 3) := by decide +kernel
theorem dL_copy_20 : decode cL_copy 20 = .ok (.return_, 1) := by decide +kernel
theorem dL_order_0 : decode cL_order 0 = .ok (.iload_n 0, 1) := by decide +kernel
theorem dL_order_1 : decode cL_order 1 = .ok (.bipush 60, 2) := by decide +kernel
theorem dL_order_3 : decode cL_order 3 = .ok (.if_icmp .ge 26, 3) := by decide +kernel
theorem dL_order_6 : decode cL_order 6 = .ok (.bipush 100, 2) := by decide +kernel
theorem dL_order_8 : decode cL_order 8 = .ok (.iload_n 0, 1) := by decide +kernel
theorem dL_order_9 : decode cL_order 9 = .ok (.bipush 12, 2) := by decide +kernel
theorem dL_order_11 : decode cL_order 11 = .ok (.idiv, 1) := by decide +kernel
theorem dL_order_12 : decode cL_order 12 = .ok (.iconst 1, 1) := by decide +kernel
theorem dL_order_13 : decode cL_order 13 = .ok (.iadd, 1) := by decide +kernel
theorem dL_order_14 : decode cL_order 14 = .ok (.imul, 1) := by decide +kernel
theorem dL_order_15 : decode cL_order 15 = .ok (.iload_n 0, 1) := by decide +kernel
theorem dL_order_16 : decode cL_order 16 = .ok (.bipush 12, 2) := by decide +kernel
theorem dL_order_18 : decode cL_order 18 = .ok (.irem, 1) := by decide +kernel
theorem dL_order_19 : decode cL_order 19 = .ok (.invokestatic 10, 3) := by decide +kernel
theorem dL_order_22 : decode cL_order 22 = .ok (.iadd, 1) := by decide +kernel
theorem dL_order_23 : decode cL_order 23 = .ok (.bipush 50, 2) := by decide +kernel
theorem dL_order_25 : decode cL_order 25 = .ok (.iadd, 1) := by decide +kernel
theorem dL_order_26 : decode cL_order 26 = .ok (.goto 25, 3) := by decide +kernel
theorem dL_order_29 : decode cL_order 29 = .ok (.bipush 100, 2) := by decide +kernel
theorem dL_order_31 : decode cL_order 31 = .ok (.bipush 6, 2) := by decide +kernel
theorem dL_order_33 : decode cL_order 33 = .ok (.iload_n 0, 1) := by decide +kernel
theorem dL_order_34 : decode cL_order 34 = .ok (.iconst 2, 1) := by decide +kernel
theorem dL_order_35 : decode cL_order 35 = .ok (.irem, 1) := by decide +kernel
theorem dL_order_36 : decode cL_order 36 = .ok (.iadd, 1) := by decide +kernel
theorem dL_order_37 : decode cL_order 37 = .ok (.imul, 1) := by decide +kernel
theorem dL_order_38 : decode cL_order 38 = .ok (.iload_n 0, 1) := by decide +kernel
theorem dL_order_39 : decode cL_order 39 = .ok (.bipush 60, 2) := by decide +kernel
theorem dL_order_41 : decode cL_order 41 = .ok (.isub, 1) := by decide +kernel
theorem dL_order_42 : decode cL_order 42 = .ok (.iconst 2, 1) := by decide +kernel
theorem dL_order_43 : decode cL_order 43 = .ok (.idiv, 1) := by decide +kernel
theorem dL_order_44 : decode cL_order 44 = .ok (.invokestatic 10, 3) := by decide +kernel
theorem dL_order_47 : decode cL_order 47 = .ok (.iadd, 1) := by decide +kernel
theorem dL_order_48 : decode cL_order 48 = .ok (.bipush 50, 2) := by decide +kernel
theorem dL_order_50 : decode cL_order 50 = .ok (.iadd, 1) := by decide +kernel
theorem dL_order_51 : decode cL_order 51 = .ok (.ireturn, 1) := by decide +kernel
theorem dL_told_0 : decode cL_told 0 = .ok (.aload_n 0, 1) := by decide +kernel
theorem dL_told_1 : decode cL_told 1 = .ok (.aload_n 1, 1) := by decide +kernel
theorem dL_told_2 : decode cL_told 2 = .ok (.aload_n 2, 1) := by decide +kernel
theorem dL_told_3 : decode cL_told 3 = .ok (.invokestatic 24, 3) := by decide +kernel
theorem dL_told_6 : decode cL_told 6 = .ok (.istore 4, 2) := by decide +kernel
theorem dL_told_8 : decode cL_told 8 = .ok (.iload 4, 2) := by decide +kernel
theorem dL_told_10 : decode cL_told 10 = .ok (.ifCond .eq 9, 3) := by decide +kernel
theorem dL_told_13 : decode cL_told 13 = .ok (.iload 4, 2) := by decide +kernel
theorem dL_told_15 : decode cL_told 15 = .ok (.iconst 3, 1) := by decide +kernel
theorem dL_told_16 : decode cL_told 16 = .ok (.if_icmp .ne 7, 3) := by decide +kernel
theorem dL_told_19 : decode cL_told 19 = .ok (.iconst 0, 1) := by decide +kernel
theorem dL_told_20 : decode cL_told 20 = .ok (.goto 16, 3) := by decide +kernel
theorem dL_told_23 : decode cL_told 23 = .ok (.iload 4, 2) := by decide +kernel
theorem dL_told_25 : decode cL_told 25 = .ok (.iload_n 3, 1) := by decide +kernel
theorem dL_told_26 : decode cL_told 26 = .ok (.iconst 1, 1) := by decide +kernel
theorem dL_told_27 : decode cL_told 27 = .ok (.iadd, 1) := by decide +kernel
theorem dL_told_28 : decode cL_told 28 = .ok (.if_icmp .ne 7, 3) := by decide +kernel
theorem dL_told_31 : decode cL_told 31 = .ok (.iconst 1, 1) := by decide +kernel
theorem dL_told_32 : decode cL_told 32 = .ok (.goto 4, 3) := by decide +kernel
theorem dL_told_35 : decode cL_told 35 = .ok (.iconst (-1), 1) := by decide +kernel
theorem dL_told_36 : decode cL_told 36 = .ok (.ireturn, 1) := by decide +kernel
theorem dL_one_0 : decode cL_one 0 = .ok (.aload_n 2, 1) := by decide +kernel
theorem dL_one_1 : decode cL_one 1 = .ok (.iconst 4, 1) := by decide +kernel
theorem dL_one_2 : decode cL_one 2 = .ok (.iaload, 1) := by decide +kernel
theorem dL_one_3 : decode cL_one 3 = .ok (.istore 4, 2) := by decide +kernel
theorem dL_one_5 : decode cL_one 5 = .ok (.bipush (-2), 2) := by decide +kernel
theorem dL_one_7 : decode cL_one 7 = .ok (.istore 5, 2) := by decide +kernel
theorem dL_one_9 : decode cL_one 9 = .ok (.iconst 0, 1) := by decide +kernel
theorem dL_one_10 : decode cL_one 10 = .ok (.istore 6, 2) := by decide +kernel
theorem dL_one_12 : decode cL_one 12 = .ok (.bipush 60, 2) := by decide +kernel
theorem dL_one_14 : decode cL_one 14 = .ok (.newarray .int, 2) := by decide +kernel
theorem dL_one_16 : decode cL_one 16 = .ok (.astore 7, 2) := by decide +kernel
theorem dL_one_18 : decode cL_one 18 = .ok (.bipush 10, 2) := by decide +kernel
theorem dL_one_20 : decode cL_one 20 = .ok (.newarray .int, 2) := by decide +kernel
theorem dL_one_22 : decode cL_one 22 = .ok (.astore 8, 2) := by decide +kernel
theorem dL_one_24 : decode cL_one 24 = .ok (.bipush 11, 2) := by decide +kernel
theorem dL_one_26 : decode cL_one 26 = .ok (.newarray .int, 2) := by decide +kernel
theorem dL_one_28 : decode cL_one 28 = .ok (.astore 9, 2) := by decide +kernel
theorem dL_one_30 : decode cL_one 30 = .ok (.aload_n 3, 1) := by decide +kernel
theorem dL_one_31 : decode cL_one 31 = .ok (.iconst 0, 1) := by decide +kernel
theorem dL_one_32 : decode cL_one 32 = .ok (.sipush (-10005), 3) := by decide +kernel
theorem dL_one_35 : decode cL_one 35 = .ok (.iastore, 1) := by decide +kernel
theorem dL_one_36 : decode cL_one 36 = .ok (.aload_n 0, 1) := by decide +kernel
theorem dL_one_37 : decode cL_one 37 = .ok (.aload_n 1, 1) := by decide +kernel
theorem dL_one_38 : decode cL_one 38 = .ok (.aload_n 2, 1) := by decide +kernel
theorem dL_one_39 : decode cL_one 39 = .ok (.invokestatic 24, 3) := by decide +kernel
theorem dL_one_42 : decode cL_one 42 = .ok (.ifCond .le 12, 3) := by decide +kernel
theorem dL_one_45 : decode cL_one 45 = .ok (.aload_n 0, 1) := by decide +kernel
theorem dL_one_46 : decode cL_one 46 = .ok (.aload_n 1, 1) := by decide +kernel
theorem dL_one_47 : decode cL_one 47 = .ok (.aload_n 2, 1) := by decide +kernel
theorem dL_one_48 : decode cL_one 48 = .ok (.iload 4, 2) := by decide +kernel
theorem dL_one_50 : decode cL_one 50 = .ok (.invokestatic 41, 3) := by decide +kernel
theorem dL_one_53 : decode cL_one 53 = .ok (.ireturn, 1) := by decide +kernel
theorem dL_one_54 : decode cL_one 54 = .ok (.iconst 0, 1) := by decide +kernel
theorem dL_one_55 : decode cL_one 55 = .ok (.istore 10, 2) := by decide +kernel
theorem dL_one_57 : decode cL_one 57 = .ok (.iload 10, 2) := by decide +kernel
theorem dL_one_59 : decode cL_one 59 = .ok (.bipush 84, 2) := by decide +kernel
theorem dL_one_61 : decode cL_one 61 = .ok (.if_icmp .ge 187, 3) := by decide +kernel
theorem dL_one_64 : decode cL_one 64 = .ok (.iload 10, 2) := by decide +kernel
theorem dL_one_66 : decode cL_one 66 = .ok (.invokestatic 45, 3) := by decide +kernel
theorem dL_one_69 : decode cL_one 69 = .ok (.istore 11, 2) := by decide +kernel
theorem dL_one_71 : decode cL_one 71 = .ok (.aload_n 0, 1) := by decide +kernel
theorem dL_one_72 : decode cL_one 72 = .ok (.aload_n 1, 1) := by decide +kernel
theorem dL_one_73 : decode cL_one 73 = .ok (.aload_n 2, 1) := by decide +kernel
theorem dL_one_74 : decode cL_one 74 = .ok (.iload 11, 2) := by decide +kernel
theorem dL_one_76 : decode cL_one 76 = .ok (.bipush 100, 2) := by decide +kernel
theorem dL_one_78 : decode cL_one 78 = .ok (.idiv, 1) := by decide +kernel
theorem dL_one_79 : decode cL_one 79 = .ok (.iload 11, 2) := by decide +kernel
theorem dL_one_81 : decode cL_one 81 = .ok (.bipush 100, 2) := by decide +kernel
theorem dL_one_83 : decode cL_one 83 = .ok (.irem, 1) := by decide +kernel
theorem dL_one_84 : decode cL_one 84 = .ok (.bipush 50, 2) := by decide +kernel
theorem dL_one_86 : decode cL_one 86 = .ok (.isub, 1) := by decide +kernel
theorem dL_one_87 : decode cL_one 87 = .ok (.invokestatic 48, 3) := by decide +kernel
theorem dL_one_90 : decode cL_one 90 = .ok (.ifCond .ne 152, 3) := by decide +kernel
theorem dL_one_93 : decode cL_one 93 = .ok (.aload_n 0, 1) := by decide +kernel
theorem dL_one_94 : decode cL_one 94 = .ok (.aload 7, 2) := by decide +kernel
theorem dL_one_96 : decode cL_one 96 = .ok (.invokestatic 52, 3) := by decide +kernel
theorem dL_one_99 : decode cL_one 99 = .ok (.aload_n 1, 1) := by decide +kernel
theorem dL_one_100 : decode cL_one 100 = .ok (.aload 8, 2) := by decide +kernel
theorem dL_one_102 : decode cL_one 102 = .ok (.invokestatic 52, 3) := by decide +kernel
theorem dL_one_105 : decode cL_one 105 = .ok (.aload_n 2, 1) := by decide +kernel
theorem dL_one_106 : decode cL_one 106 = .ok (.aload 9, 2) := by decide +kernel
theorem dL_one_108 : decode cL_one 108 = .ok (.invokestatic 52, 3) := by decide +kernel
theorem dL_one_111 : decode cL_one 111 = .ok (.aload 7, 2) := by decide +kernel
theorem dL_one_113 : decode cL_one 113 = .ok (.aload 8, 2) := by decide +kernel
theorem dL_one_115 : decode cL_one 115 = .ok (.aload 9, 2) := by decide +kernel
theorem dL_one_117 : decode cL_one 117 = .ok (.iload 11, 2) := by decide +kernel
theorem dL_one_119 : decode cL_one 119 = .ok (.bipush 100, 2) := by decide +kernel
theorem dL_one_121 : decode cL_one 121 = .ok (.idiv, 1) := by decide +kernel
theorem dL_one_122 : decode cL_one 122 = .ok (.iload 11, 2) := by decide +kernel
theorem dL_one_124 : decode cL_one 124 = .ok (.bipush 100, 2) := by decide +kernel
theorem dL_one_126 : decode cL_one 126 = .ok (.irem, 1) := by decide +kernel
theorem dL_one_127 : decode cL_one 127 = .ok (.bipush 50, 2) := by decide +kernel
theorem dL_one_129 : decode cL_one 129 = .ok (.isub, 1) := by decide +kernel
theorem dL_one_130 : decode cL_one 130 = .ok (.invokestatic 56, 3) := by decide +kernel
theorem dL_one_133 : decode cL_one 133 = .ok (.aload 7, 2) := by decide +kernel
theorem dL_one_135 : decode cL_one 135 = .ok (.aload 8, 2) := by decide +kernel
theorem dL_one_137 : decode cL_one 137 = .ok (.aload 9, 2) := by decide +kernel
theorem dL_one_139 : decode cL_one 139 = .ok (.iload 4, 2) := by decide +kernel
theorem dL_one_141 : decode cL_one 141 = .ok (.invokestatic 41, 3) := by decide +kernel
theorem dL_one_144 : decode cL_one 144 = .ok (.istore 12, 2) := by decide +kernel
theorem dL_one_146 : decode cL_one 146 = .ok (.aload 7, 2) := by decide +kernel
theorem dL_one_148 : decode cL_one 148 = .ok (.invokestatic 16, 3) := by decide +kernel
theorem dL_one_151 : decode cL_one 151 = .ok (.ifCond .ge 12, 3) := by decide +kernel
theorem dL_one_154 : decode cL_one 154 = .ok (.aload 7, 2) := by decide +kernel
theorem dL_one_156 : decode cL_one 156 = .ok (.invokestatic 16, 3) := by decide +kernel
theorem dL_one_159 : decode cL_one 159 = .ok (.ineg, 1) := by decide +kernel
theorem dL_one_160 : decode cL_one 160 = .ok (.goto 8, 3) := by decide +kernel
theorem dL_one_163 : decode cL_one 163 = .ok (.aload 7, 2) := by decide +kernel
theorem dL_one_165 : decode cL_one 165 = .ok (.invokestatic 16, 3) := by decide +kernel
theorem dL_one_168 : decode cL_one 168 = .ok (.istore 13, 2) := by decide +kernel
theorem dL_one_170 : decode cL_one 170 = .ok (.iload 12, 2) := by decide +kernel
theorem dL_one_172 : decode cL_one 172 = .ok (.iload 5, 2) := by decide +kernel
theorem dL_one_174 : decode cL_one 174 = .ok (.if_icmp .gt 17, 3) := by decide +kernel
theorem dL_one_177 : decode cL_one 177 = .ok (.iload 12, 2) := by decide +kernel
theorem dL_one_179 : decode cL_one 179 = .ok (.iload 5, 2) := by decide +kernel
theorem dL_one_181 : decode cL_one 181 = .ok (.if_icmp .ne 14, 3) := by decide +kernel
theorem dL_one_184 : decode cL_one 184 = .ok (.iload 13, 2) := by decide +kernel
theorem dL_one_186 : decode cL_one 186 = .ok (.iload 6, 2) := by decide +kernel
theorem dL_one_188 : decode cL_one 188 = .ok (.if_icmp .ge 7, 3) := by decide +kernel
theorem dL_one_191 : decode cL_one 191 = .ok (.iconst 1, 1) := by decide +kernel
theorem dL_one_192 : decode cL_one 192 = .ok (.goto 4, 3) := by decide +kernel
theorem dL_one_195 : decode cL_one 195 = .ok (.iconst 0, 1) := by decide +kernel
theorem dL_one_196 : decode cL_one 196 = .ok (.istore 14, 2) := by decide +kernel
theorem dL_one_198 : decode cL_one 198 = .ok (.iload 14, 2) := by decide +kernel
theorem dL_one_200 : decode cL_one 200 = .ok (.ifCond .eq 8, 3) := by decide +kernel
theorem dL_one_203 : decode cL_one 203 = .ok (.iload 12, 2) := by decide +kernel
theorem dL_one_205 : decode cL_one 205 = .ok (.goto 5, 3) := by decide +kernel
theorem dL_one_208 : decode cL_one 208 = .ok (.iload 5, 2) := by decide +kernel
theorem dL_one_210 : decode cL_one 210 = .ok (.istore 5, 2) := by decide +kernel
theorem dL_one_212 : decode cL_one 212 = .ok (.iload 14, 2) := by decide +kernel
theorem dL_one_214 : decode cL_one 214 = .ok (.ifCond .eq 8, 3) := by decide +kernel
theorem dL_one_217 : decode cL_one 217 = .ok (.iload 13, 2) := by decide +kernel
theorem dL_one_219 : decode cL_one 219 = .ok (.goto 5, 3) := by decide +kernel
theorem dL_one_222 : decode cL_one 222 = .ok (.iload 6, 2) := by decide +kernel
theorem dL_one_224 : decode cL_one 224 = .ok (.istore 6, 2) := by decide +kernel
theorem dL_one_226 : decode cL_one 226 = .ok (.aload_n 3, 1) := by decide +kernel
theorem dL_one_227 : decode cL_one 227 = .ok (.iconst 0, 1) := by decide +kernel
theorem dL_one_228 : decode cL_one 228 = .ok (.iload 14, 2) := by decide +kernel
theorem dL_one_230 : decode cL_one 230 = .ok (.ifCond .eq 8, 3) := by decide +kernel
theorem dL_one_233 : decode cL_one 233 = .ok (.iload 11, 2) := by decide +kernel
theorem dL_one_235 : decode cL_one 235 = .ok (.goto 6, 3) := by decide +kernel
theorem dL_one_238 : decode cL_one 238 = .ok (.aload_n 3, 1) := by decide +kernel
theorem dL_one_239 : decode cL_one 239 = .ok (.iconst 0, 1) := by decide +kernel
theorem dL_one_240 : decode cL_one 240 = .ok (.iaload, 1) := by decide +kernel
theorem dL_one_241 : decode cL_one 241 = .ok (.iastore, 1) := by decide +kernel
theorem dL_one_242 : decode cL_one 242 = .ok (.iinc 10 1, 3) := by decide +kernel
theorem dL_one_245 : decode cL_one 245 = .ok (.goto (-188), 3) := by decide +kernel
theorem dL_one_248 : decode cL_one 248 = .ok (.iload 5, 2) := by decide +kernel
theorem dL_one_250 : decode cL_one 250 = .ok (.iconst (-1), 1) := by decide +kernel
theorem dL_one_251 : decode cL_one 251 = .ok (.if_icmp .ge 7, 3) := by decide +kernel
theorem dL_one_254 : decode cL_one 254 = .ok (.iconst 0, 1) := by decide +kernel
theorem dL_one_255 : decode cL_one 255 = .ok (.goto 5, 3) := by decide +kernel
theorem dL_one_258 : decode cL_one 258 = .ok (.iload 5, 2) := by decide +kernel
theorem dL_one_260 : decode cL_one 260 = .ok (.ireturn, 1) := by decide +kernel
theorem dL_two_0 : decode cL_two 0 = .ok (.aload_n 2, 1) := by decide +kernel
theorem dL_two_1 : decode cL_two 1 = .ok (.iconst 4, 1) := by decide +kernel
theorem dL_two_2 : decode cL_two 2 = .ok (.iaload, 1) := by decide +kernel
theorem dL_two_3 : decode cL_two 3 = .ok (.istore 4, 2) := by decide +kernel
theorem dL_two_5 : decode cL_two 5 = .ok (.bipush (-2), 2) := by decide +kernel
theorem dL_two_7 : decode cL_two 7 = .ok (.istore 5, 2) := by decide +kernel
theorem dL_two_9 : decode cL_two 9 = .ok (.iconst 0, 1) := by decide +kernel
theorem dL_two_10 : decode cL_two 10 = .ok (.istore 6, 2) := by decide +kernel
theorem dL_two_12 : decode cL_two 12 = .ok (.bipush 60, 2) := by decide +kernel
theorem dL_two_14 : decode cL_two 14 = .ok (.newarray .int, 2) := by decide +kernel
theorem dL_two_16 : decode cL_two 16 = .ok (.astore 7, 2) := by decide +kernel
theorem dL_two_18 : decode cL_two 18 = .ok (.bipush 10, 2) := by decide +kernel
theorem dL_two_20 : decode cL_two 20 = .ok (.newarray .int, 2) := by decide +kernel
theorem dL_two_22 : decode cL_two 22 = .ok (.astore 8, 2) := by decide +kernel
theorem dL_two_24 : decode cL_two 24 = .ok (.bipush 11, 2) := by decide +kernel
theorem dL_two_26 : decode cL_two 26 = .ok (.newarray .int, 2) := by decide +kernel
theorem dL_two_28 : decode cL_two 28 = .ok (.astore 9, 2) := by decide +kernel
theorem dL_two_30 : decode cL_two 30 = .ok (.iconst 1, 1) := by decide +kernel
theorem dL_two_31 : decode cL_two 31 = .ok (.newarray .int, 2) := by decide +kernel
theorem dL_two_33 : decode cL_two 33 = .ok (.astore 10, 2) := by decide +kernel
theorem dL_two_35 : decode cL_two 35 = .ok (.aload_n 3, 1) := by decide +kernel
theorem dL_two_36 : decode cL_two 36 = .ok (.iconst 0, 1) := by decide +kernel
theorem dL_two_37 : decode cL_two 37 = .ok (.sipush (-10005), 3) := by decide +kernel
theorem dL_two_40 : decode cL_two 40 = .ok (.iastore, 1) := by decide +kernel
theorem dL_two_41 : decode cL_two 41 = .ok (.aload_n 0, 1) := by decide +kernel
theorem dL_two_42 : decode cL_two 42 = .ok (.aload_n 1, 1) := by decide +kernel
theorem dL_two_43 : decode cL_two 43 = .ok (.aload_n 2, 1) := by decide +kernel
theorem dL_two_44 : decode cL_two 44 = .ok (.invokestatic 24, 3) := by decide +kernel
theorem dL_two_47 : decode cL_two 47 = .ok (.ifCond .le 12, 3) := by decide +kernel
theorem dL_two_50 : decode cL_two 50 = .ok (.aload_n 0, 1) := by decide +kernel
theorem dL_two_51 : decode cL_two 51 = .ok (.aload_n 1, 1) := by decide +kernel
theorem dL_two_52 : decode cL_two 52 = .ok (.aload_n 2, 1) := by decide +kernel
theorem dL_two_53 : decode cL_two 53 = .ok (.iload 4, 2) := by decide +kernel
theorem dL_two_55 : decode cL_two 55 = .ok (.invokestatic 41, 3) := by decide +kernel
theorem dL_two_58 : decode cL_two 58 = .ok (.ireturn, 1) := by decide +kernel
theorem dL_two_59 : decode cL_two 59 = .ok (.iconst 0, 1) := by decide +kernel
theorem dL_two_60 : decode cL_two 60 = .ok (.istore 11, 2) := by decide +kernel
theorem dL_two_62 : decode cL_two 62 = .ok (.iload 11, 2) := by decide +kernel
theorem dL_two_64 : decode cL_two 64 = .ok (.bipush 84, 2) := by decide +kernel
theorem dL_two_66 : decode cL_two 66 = .ok (.if_icmp .ge 206, 3) := by decide +kernel
theorem dL_two_69 : decode cL_two 69 = .ok (.iload 11, 2) := by decide +kernel
theorem dL_two_71 : decode cL_two 71 = .ok (.invokestatic 45, 3) := by decide +kernel
theorem dL_two_74 : decode cL_two 74 = .ok (.istore 12, 2) := by decide +kernel
theorem dL_two_76 : decode cL_two 76 = .ok (.aload_n 0, 1) := by decide +kernel
theorem dL_two_77 : decode cL_two 77 = .ok (.aload_n 1, 1) := by decide +kernel
theorem dL_two_78 : decode cL_two 78 = .ok (.aload_n 2, 1) := by decide +kernel
theorem dL_two_79 : decode cL_two 79 = .ok (.iload 12, 2) := by decide +kernel
theorem dL_two_81 : decode cL_two 81 = .ok (.bipush 100, 2) := by decide +kernel
theorem dL_two_83 : decode cL_two 83 = .ok (.idiv, 1) := by decide +kernel
theorem dL_two_84 : decode cL_two 84 = .ok (.iload 12, 2) := by decide +kernel
theorem dL_two_86 : decode cL_two 86 = .ok (.bipush 100, 2) := by decide +kernel
theorem dL_two_88 : decode cL_two 88 = .ok (.irem, 1) := by decide +kernel
theorem dL_two_89 : decode cL_two 89 = .ok (.bipush 50, 2) := by decide +kernel
theorem dL_two_91 : decode cL_two 91 = .ok (.isub, 1) := by decide +kernel
theorem dL_two_92 : decode cL_two 92 = .ok (.invokestatic 48, 3) := by decide +kernel
theorem dL_two_95 : decode cL_two 95 = .ok (.ifCond .ne 171, 3) := by decide +kernel
theorem dL_two_98 : decode cL_two 98 = .ok (.aload_n 0, 1) := by decide +kernel
theorem dL_two_99 : decode cL_two 99 = .ok (.aload 7, 2) := by decide +kernel
theorem dL_two_101 : decode cL_two 101 = .ok (.invokestatic 52, 3) := by decide +kernel
theorem dL_two_104 : decode cL_two 104 = .ok (.aload_n 1, 1) := by decide +kernel
theorem dL_two_105 : decode cL_two 105 = .ok (.aload 8, 2) := by decide +kernel
theorem dL_two_107 : decode cL_two 107 = .ok (.invokestatic 52, 3) := by decide +kernel
theorem dL_two_110 : decode cL_two 110 = .ok (.aload_n 2, 1) := by decide +kernel
theorem dL_two_111 : decode cL_two 111 = .ok (.aload 9, 2) := by decide +kernel
theorem dL_two_113 : decode cL_two 113 = .ok (.invokestatic 52, 3) := by decide +kernel
theorem dL_two_116 : decode cL_two 116 = .ok (.aload 7, 2) := by decide +kernel
theorem dL_two_118 : decode cL_two 118 = .ok (.aload 8, 2) := by decide +kernel
theorem dL_two_120 : decode cL_two 120 = .ok (.aload 9, 2) := by decide +kernel
theorem dL_two_122 : decode cL_two 122 = .ok (.iload 12, 2) := by decide +kernel
theorem dL_two_124 : decode cL_two 124 = .ok (.bipush 100, 2) := by decide +kernel
theorem dL_two_126 : decode cL_two 126 = .ok (.idiv, 1) := by decide +kernel
theorem dL_two_127 : decode cL_two 127 = .ok (.iload 12, 2) := by decide +kernel
theorem dL_two_129 : decode cL_two 129 = .ok (.bipush 100, 2) := by decide +kernel
theorem dL_two_131 : decode cL_two 131 = .ok (.irem, 1) := by decide +kernel
theorem dL_two_132 : decode cL_two 132 = .ok (.bipush 50, 2) := by decide +kernel
theorem dL_two_134 : decode cL_two 134 = .ok (.isub, 1) := by decide +kernel
theorem dL_two_135 : decode cL_two 135 = .ok (.invokestatic 56, 3) := by decide +kernel
theorem dL_two_138 : decode cL_two 138 = .ok (.aload 7, 2) := by decide +kernel
theorem dL_two_140 : decode cL_two 140 = .ok (.aload 8, 2) := by decide +kernel
theorem dL_two_142 : decode cL_two 142 = .ok (.aload 9, 2) := by decide +kernel
theorem dL_two_144 : decode cL_two 144 = .ok (.aload 10, 2) := by decide +kernel
theorem dL_two_146 : decode cL_two 146 = .ok (.invokestatic 60, 3) := by decide +kernel
theorem dL_two_149 : decode cL_two 149 = .ok (.istore 13, 2) := by decide +kernel
theorem dL_two_151 : decode cL_two 151 = .ok (.aload 9, 2) := by decide +kernel
theorem dL_two_153 : decode cL_two 153 = .ok (.iconst 4, 1) := by decide +kernel
theorem dL_two_154 : decode cL_two 154 = .ok (.iaload, 1) := by decide +kernel
theorem dL_two_155 : decode cL_two 155 = .ok (.iload 4, 2) := by decide +kernel
theorem dL_two_157 : decode cL_two 157 = .ok (.if_icmp .ne 8, 3) := by decide +kernel
theorem dL_two_160 : decode cL_two 160 = .ok (.iload 13, 2) := by decide +kernel
theorem dL_two_162 : decode cL_two 162 = .ok (.goto 6, 3) := by decide +kernel
theorem dL_two_165 : decode cL_two 165 = .ok (.iload 13, 2) := by decide +kernel
theorem dL_two_167 : decode cL_two 167 = .ok (.ineg, 1) := by decide +kernel
theorem dL_two_168 : decode cL_two 168 = .ok (.istore 14, 2) := by decide +kernel
theorem dL_two_170 : decode cL_two 170 = .ok (.aload 7, 2) := by decide +kernel
theorem dL_two_172 : decode cL_two 172 = .ok (.invokestatic 16, 3) := by decide +kernel
theorem dL_two_175 : decode cL_two 175 = .ok (.ifCond .ge 12, 3) := by decide +kernel
theorem dL_two_178 : decode cL_two 178 = .ok (.aload 7, 2) := by decide +kernel
theorem dL_two_180 : decode cL_two 180 = .ok (.invokestatic 16, 3) := by decide +kernel
theorem dL_two_183 : decode cL_two 183 = .ok (.ineg, 1) := by decide +kernel
theorem dL_two_184 : decode cL_two 184 = .ok (.goto 8, 3) := by decide +kernel
theorem dL_two_187 : decode cL_two 187 = .ok (.aload 7, 2) := by decide +kernel
theorem dL_two_189 : decode cL_two 189 = .ok (.invokestatic 16, 3) := by decide +kernel
theorem dL_two_192 : decode cL_two 192 = .ok (.istore 15, 2) := by decide +kernel
theorem dL_two_194 : decode cL_two 194 = .ok (.iload 14, 2) := by decide +kernel
theorem dL_two_196 : decode cL_two 196 = .ok (.iload 5, 2) := by decide +kernel
theorem dL_two_198 : decode cL_two 198 = .ok (.if_icmp .gt 17, 3) := by decide +kernel
theorem dL_two_201 : decode cL_two 201 = .ok (.iload 14, 2) := by decide +kernel
theorem dL_two_203 : decode cL_two 203 = .ok (.iload 5, 2) := by decide +kernel
theorem dL_two_205 : decode cL_two 205 = .ok (.if_icmp .ne 14, 3) := by decide +kernel
theorem dL_two_208 : decode cL_two 208 = .ok (.iload 15, 2) := by decide +kernel
theorem dL_two_210 : decode cL_two 210 = .ok (.iload 6, 2) := by decide +kernel
theorem dL_two_212 : decode cL_two 212 = .ok (.if_icmp .ge 7, 3) := by decide +kernel
theorem dL_two_215 : decode cL_two 215 = .ok (.iconst 1, 1) := by decide +kernel
theorem dL_two_216 : decode cL_two 216 = .ok (.goto 4, 3) := by decide +kernel
theorem dL_two_219 : decode cL_two 219 = .ok (.iconst 0, 1) := by decide +kernel
theorem dL_two_220 : decode cL_two 220 = .ok (.istore 16, 2) := by decide +kernel
theorem dL_two_222 : decode cL_two 222 = .ok (.iload 16, 2) := by decide +kernel
theorem dL_two_224 : decode cL_two 224 = .ok (.ifCond .eq 8, 3) := by decide +kernel
theorem dL_two_227 : decode cL_two 227 = .ok (.iload 14, 2) := by decide +kernel
theorem dL_two_229 : decode cL_two 229 = .ok (.goto 5, 3) := by decide +kernel
theorem dL_two_232 : decode cL_two 232 = .ok (.iload 5, 2) := by decide +kernel
theorem dL_two_234 : decode cL_two 234 = .ok (.istore 5, 2) := by decide +kernel
theorem dL_two_236 : decode cL_two 236 = .ok (.iload 16, 2) := by decide +kernel
theorem dL_two_238 : decode cL_two 238 = .ok (.ifCond .eq 8, 3) := by decide +kernel
theorem dL_two_241 : decode cL_two 241 = .ok (.iload 15, 2) := by decide +kernel
theorem dL_two_243 : decode cL_two 243 = .ok (.goto 5, 3) := by decide +kernel
theorem dL_two_246 : decode cL_two 246 = .ok (.iload 6, 2) := by decide +kernel
theorem dL_two_248 : decode cL_two 248 = .ok (.istore 6, 2) := by decide +kernel
theorem dL_two_250 : decode cL_two 250 = .ok (.aload_n 3, 1) := by decide +kernel
theorem dL_two_251 : decode cL_two 251 = .ok (.iconst 0, 1) := by decide +kernel
theorem dL_two_252 : decode cL_two 252 = .ok (.iload 16, 2) := by decide +kernel
theorem dL_two_254 : decode cL_two 254 = .ok (.ifCond .eq 8, 3) := by decide +kernel
theorem dL_two_257 : decode cL_two 257 = .ok (.iload 12, 2) := by decide +kernel
theorem dL_two_259 : decode cL_two 259 = .ok (.goto 6, 3) := by decide +kernel
theorem dL_two_262 : decode cL_two 262 = .ok (.aload_n 3, 1) := by decide +kernel
theorem dL_two_263 : decode cL_two 263 = .ok (.iconst 0, 1) := by decide +kernel
theorem dL_two_264 : decode cL_two 264 = .ok (.iaload, 1) := by decide +kernel
theorem dL_two_265 : decode cL_two 265 = .ok (.iastore, 1) := by decide +kernel
theorem dL_two_266 : decode cL_two 266 = .ok (.iinc 11 1, 3) := by decide +kernel
theorem dL_two_269 : decode cL_two 269 = .ok (.goto (-207), 3) := by decide +kernel
theorem dL_two_272 : decode cL_two 272 = .ok (.iload 5, 2) := by decide +kernel
theorem dL_two_274 : decode cL_two 274 = .ok (.iconst (-1), 1) := by decide +kernel
theorem dL_two_275 : decode cL_two 275 = .ok (.if_icmp .ge 7, 3) := by decide +kernel
theorem dL_two_278 : decode cL_two 278 = .ok (.iconst 0, 1) := by decide +kernel
theorem dL_two_279 : decode cL_two 279 = .ok (.goto 5, 3) := by decide +kernel
theorem dL_two_282 : decode cL_two 282 = .ok (.iload 5, 2) := by decide +kernel
