theorem dX12_init_0 : decode cX12_init 0 = .ok (.aload_n 0, 1) := by decide +kernel
theorem dX12_init_1 : decode cX12_init 1 = .ok (.invokespecial 1, 3) := by decide +kernel
theorem dX12_init_4 : decode cX12_init 4 = .ok (.aload_n 0, 1) := by decide +kernel
theorem dX12_init_5 : decode cX12_init 5 = .ok (.sipush 200, 3) := by decide +kernel
theorem dX12_init_8 : decode cX12_init 8 = .ok (.newarray .int, 2) := by decide +kernel
theorem dX12_init_10 : decode cX12_init 10 = .ok (.putfield 7, 3) := by decide +kernel
theorem dX12_init_13 : decode cX12_init 13 = .ok (.aload_n 0, 1) := by decide +kernel
theorem dX12_init_14 : decode cX12_init 14 = .ok (.bipush 30, 2) := by decide +kernel
theorem dX12_init_16 : decode cX12_init 16 = .ok (.newarray .int, 2) := by decide +kernel
theorem dX12_init_18 : decode cX12_init 18 = .ok (.putfield 13, 3) := by decide +kernel
theorem dX12_init_21 : decode cX12_init 21 = .ok (.aload_n 0, 1) := by decide +kernel
theorem dX12_init_22 : decode cX12_init 22 = .ok (.bipush 48, 2) := by decide +kernel
theorem dX12_init_24 : decode cX12_init 24 = .ok (.newarray .int, 2) := by decide +kernel
theorem dX12_init_26 : decode cX12_init 26 = .ok (.putfield 16, 3) := by decide +kernel
theorem dX12_init_29 : decode cX12_init 29 = .ok (.aload_n 0, 1) := by decide +kernel
theorem dX12_init_30 : decode cX12_init 30 = .ok (.bipush 8, 2) := by decide +kernel
theorem dX12_init_32 : decode cX12_init 32 = .ok (.newarray .int, 2) := by decide +kernel
theorem dX12_init_34 : decode cX12_init 34 = .ok (.putfield 19, 3) := by decide +kernel
theorem dX12_init_37 : decode cX12_init 37 = .ok (.aload_n 0, 1) := by decide +kernel
theorem dX12_init_38 : decode cX12_init 38 = .ok (.bipush 14, 2) := by decide +kernel
theorem dX12_init_40 : decode cX12_init 40 = .ok (.newarray .int, 2) := by decide +kernel
theorem dX12_init_42 : decode cX12_init 42 = .ok (.putfield 22, 3) := by decide +kernel
theorem dX12_init_45 : decode cX12_init 45 = .ok (.aload_n 0, 1) := by decide +kernel
theorem dX12_init_46 : decode cX12_init 46 = .ok (.bipush 14, 2) := by decide +kernel
theorem dX12_init_48 : decode cX12_init 48 = .ok (.newarray .int, 2) := by decide +kernel
theorem dX12_init_50 : decode cX12_init 50 = .ok (.putfield 25, 3) := by decide +kernel
theorem dX12_init_53 : decode cX12_init 53 = .ok (.aload_n 0, 1) := by decide +kernel
theorem dX12_init_54 : decode cX12_init 54 = .ok (.bipush 28, 2) := by decide +kernel
theorem dX12_init_56 : decode cX12_init 56 = .ok (.newarray .int, 2) := by decide +kernel
theorem dX12_init_58 : decode cX12_init 58 = .ok (.putfield 28, 3) := by decide +kernel
theorem dX12_init_61 : decode cX12_init 61 = .ok (.aload_n 0, 1) := by decide +kernel
theorem dX12_init_62 : decode cX12_init 62 = .ok (.iconst 2, 1) := by decide +kernel
theorem dX12_init_63 : decode cX12_init 63 = .ok (.newarray .boolean, 2) := by decide +kernel
theorem dX12_init_65 : decode cX12_init 65 = .ok (.putfield 31, 3) := by decide +kernel
theorem dX12_init_68 : decode cX12_init 68 = .ok (.aload_n 0, 1) := by decide +kernel
theorem dX12_init_69 : decode cX12_init 69 = .ok (.sipush 140, 3) := by decide +kernel
theorem dX12_init_72 : decode cX12_init 72 = .ok (.newarray .int, 2) := by decide +kernel
theorem dX12_init_74 : decode cX12_init 74 = .ok (.putfield 35, 3) := by decide +kernel
theorem dX12_init_77 : decode cX12_init 77 = .ok (.aload_n 0, 1) := by decide +kernel
theorem dX12_init_78 : decode cX12_init 78 = .ok (.bipush 24, 2) := by decide +kernel
theorem dX12_init_80 : decode cX12_init 80 = .ok (.newarray .int, 2) := by decide +kernel
theorem dX12_init_82 : decode cX12_init 82 = .ok (.putfield 38, 3) := by decide +kernel
theorem dX12_init_85 : decode cX12_init 85 = .ok (.aload_n 0, 1) := by decide +kernel
theorem dX12_init_86 : decode cX12_init 86 = .ok (.iconst 4, 1) := by decide +kernel
theorem dX12_init_87 : decode cX12_init 87 = .ok (.newarray .int, 2) := by decide +kernel
theorem dX12_init_89 : decode cX12_init 89 = .ok (.putfield 41, 3) := by decide +kernel
theorem dX12_init_92 : decode cX12_init 92 = .ok (.aload_n 0, 1) := by decide +kernel
theorem dX12_init_93 : decode cX12_init 93 = .ok (.iconst 4, 1) := by decide +kernel
theorem dX12_init_94 : decode cX12_init 94 = .ok (.newarray .int, 2) := by decide +kernel
theorem dX12_init_96 : decode cX12_init 96 = .ok (.putfield 44, 3) := by decide +kernel
theorem dX12_init_99 : decode cX12_init 99 = .ok (.aload_n 0, 1) := by decide +kernel
theorem dX12_init_100 : decode cX12_init 100 = .ok (.bipush 101, 2) := by decide +kernel
theorem dX12_init_102 : decode cX12_init 102 = .ok (.newarray .long, 2) := by decide +kernel
theorem dX12_init_104 : decode cX12_init 104 = .ok (.putfield 47, 3) := by decide +kernel
theorem dX12_init_107 : decode cX12_init 107 = .ok (.aload_n 0, 1) := by decide +kernel
theorem dX12_init_108 : decode cX12_init 108 = .ok (.bipush 101, 2) := by decide +kernel
theorem dX12_init_110 : decode cX12_init 110 = .ok (.newarray .long, 2) := by decide +kernel
theorem dX12_init_112 : decode cX12_init 112 = .ok (.putfield 51, 3) := by decide +kernel
theorem dX12_init_115 : decode cX12_init 115 = .ok (.aload_n 0, 1) := by decide +kernel
theorem dX12_init_116 : decode cX12_init 116 = .ok (.bipush 16, 2) := by decide +kernel
theorem dX12_init_118 : decode cX12_init 118 = .ok (.newarray .int, 2) := by decide +kernel
theorem dX12_init_120 : decode cX12_init 120 = .ok (.putfield 54, 3) := by decide +kernel
theorem dX12_init_123 : decode cX12_init 123 = .ok (.aload_n 0, 1) := by decide +kernel
theorem dX12_init_124 : decode cX12_init 124 = .ok (.iconst 1, 1) := by decide +kernel
theorem dX12_init_125 : decode cX12_init 125 = .ok (.putfield 57, 3) := by decide +kernel
theorem dX12_init_128 : decode cX12_init 128 = .ok (.return_, 1) := by decide +kernel
theorem dX12_in_0 : decode cX12_in 0 = .ok (.iload_n 0, 1) := by decide +kernel
theorem dX12_in_1 : decode cX12_in 1 = .ok (.iload_n 1, 1) := by decide +kernel
theorem dX12_in_2 : decode cX12_in 2 = .ok (.if_icmp .lt 12, 3) := by decide +kernel
theorem dX12_in_5 : decode cX12_in 5 = .ok (.iload_n 0, 1) := by decide +kernel
theorem dX12_in_6 : decode cX12_in 6 = .ok (.iload_n 2, 1) := by decide +kernel
theorem dX12_in_7 : decode cX12_in 7 = .ok (.if_icmp .gt 7, 3) := by decide +kernel
theorem dX12_in_10 : decode cX12_in 10 = .ok (.iconst 1, 1) := by decide +kernel
theorem dX12_in_11 : decode cX12_in 11 = .ok (.goto 4, 3) := by decide +kernel
theorem dX12_in_14 : decode cX12_in 14 = .ok (.iconst 0, 1) := by decide +kernel
theorem dX12_in_15 : decode cX12_in 15 = .ok (.ireturn, 1) := by decide +kernel
theorem dX12_ones_0 : decode cX12_ones 0 = .ok (.iconst 0, 1) := by decide +kernel
theorem dX12_ones_1 : decode cX12_ones 1 = .ok (.istore_n 1, 1) := by decide +kernel
theorem dX12_ones_2 : decode cX12_ones 2 = .ok (.iconst 0, 1) := by decide +kernel
theorem dX12_ones_3 : decode cX12_ones 3 = .ok (.istore_n 2, 1) := by decide +kernel
theorem dX12_ones_4 : decode cX12_ones 4 = .ok (.iload_n 2, 1) := by decide +kernel
theorem dX12_ones_5 : decode cX12_ones 5 = .ok (.iconst 5, 1) := by decide +kernel
theorem dX12_ones_6 : decode cX12_ones 6 = .ok (.if_icmp .ge 17, 3) := by decide +kernel
theorem dX12_ones_9 : decode cX12_ones 9 = .ok (.iload_n 1, 1) := by decide +kernel
theorem dX12_ones_10 : decode cX12_ones 10 = .ok (.iload_n 0, 1) := by decide +kernel
theorem dX12_ones_11 : decode cX12_ones 11 = .ok (.iload_n 2, 1) := by decide +kernel
theorem dX12_ones_12 : decode cX12_ones 12 = .ok (.ishr, 1) := by decide +kernel
theorem dX12_ones_13 : decode cX12_ones 13 = .ok (.iconst 1, 1) := by decide +kernel
theorem dX12_ones_14 : decode cX12_ones 14 = .ok (.iand, 1) := by decide +kernel
theorem dX12_ones_15 : decode cX12_ones 15 = .ok (.iadd, 1) := by decide +kernel
theorem dX12_ones_16 : decode cX12_ones 16 = .ok (.istore_n 1, 1) := by decide +kernel
theorem dX12_ones_17 : decode cX12_ones 17 = .ok (.iinc 2 1, 3) := by decide +kernel
theorem dX12_ones_20 : decode cX12_ones 20 = .ok (.goto (-16), 3) := by decide +kernel
theorem dX12_ones_23 : decode cX12_ones 23 = .ok (.iload_n 1, 1) := by decide +kernel
theorem dX12_ones_24 : decode cX12_ones 24 = .ok (.ireturn, 1) := by decide +kernel
theorem dX12_type_0 : decode cX12_type 0 = .ok (.aload_n 0, 1) := by decide +kernel
theorem dX12_type_1 : decode cX12_type 1 = .ok (.iconst 0, 1) := by decide +kernel
theorem dX12_type_2 : decode cX12_type 2 = .ok (.putfield 61, 3) := by decide +kernel
theorem dX12_type_5 : decode cX12_type 5 = .ok (.iload_n 1, 1) := by decide +kernel
theorem dX12_type_6 : decode cX12_type 6 = .ok (.iconst 0, 1) := by decide +kernel
theorem dX12_type_7 : decode cX12_type 7 = .ok (.sipush 255, 3) := by decide +kernel
theorem dX12_type_10 : decode cX12_type 10 = .ok (.invokestatic 64, 3) := by decide +kernel
theorem dX12_type_13 : decode cX12_type 13 = .ok (.ifCond .ne 5, 3) := by decide +kernel
theorem dX12_type_16 : decode cX12_type 16 = .ok (.iconst (-1), 1) := by decide +kernel
theorem dX12_type_17 : decode cX12_type 17 = .ok (.ireturn, 1) := by decide +kernel
theorem dX12_type_18 : decode cX12_type 18 = .ok (.aload_n 0, 1) := by decide +kernel
theorem dX12_type_19 : decode cX12_type 19 = .ok (.getfield 68, 3) := by decide +kernel
theorem dX12_type_22 : decode cX12_type 22 = .ok (.sipush 200, 3) := by decide +kernel
theorem dX12_type_25 : decode cX12_type 25 = .ok (.if_icmp .ne 6, 3) := by decide +kernel
theorem dX12_type_28 : decode cX12_type 28 = .ok (.bipush (-3), 2) := by decide +kernel
theorem dX12_type_30 : decode cX12_type 30 = .ok (.ireturn, 1) := by decide +kernel
theorem dX12_type_31 : decode cX12_type 31 = .ok (.aload_n 0, 1) := by decide +kernel
theorem dX12_type_32 : decode cX12_type 32 = .ok (.getfield 7, 3) := by decide +kernel
theorem dX12_type_35 : decode cX12_type 35 = .ok (.aload_n 0, 1) := by decide +kernel
theorem dX12_type_36 : decode cX12_type 36 = .ok (.getfield 68, 3) := by decide +kernel
theorem dX12_type_39 : decode cX12_type 39 = .ok (.iload_n 1, 1) := by decide +kernel
theorem dX12_type_40 : decode cX12_type 40 = .ok (.iastore, 1) := by decide +kernel
theorem dX12_type_41 : decode cX12_type 41 = .ok (.aload_n 0, 1) := by decide +kernel
theorem dX12_type_42 : decode cX12_type 42 = .ok (.dup, 1) := by decide +kernel
theorem dX12_type_43 : decode cX12_type 43 = .ok (.getfield 68, 3) := by decide +kernel
theorem dX12_type_46 : decode cX12_type 46 = .ok (.iconst 1, 1) := by decide +kernel
theorem dX12_type_47 : decode cX12_type 47 = .ok (.iadd, 1) := by decide +kernel
theorem dX12_type_48 : decode cX12_type 48 = .ok (.putfield 68, 3) := by decide +kernel
theorem dX12_type_51 : decode cX12_type 51 = .ok (.aload_n 0, 1) := by decide +kernel
theorem dX12_type_52 : decode cX12_type 52 = .ok (.getfield 68, 3) := by decide +kernel
theorem dX12_type_55 : decode cX12_type 55 = .ok (.ireturn, 1) := by decide +kernel
theorem dX12_clear_0 : decode cX12_clear 0 = .ok (.aload_n 0, 1) := by decide +kernel
theorem dX12_clear_1 : decode cX12_clear 1 = .ok (.iconst 0, 1) := by decide +kernel
theorem dX12_clear_2 : decode cX12_clear 2 = .ok (.putfield 61, 3) := by decide +kernel
theorem dX12_clear_5 : decode cX12_clear 5 = .ok (.aload_n 0, 1) := by decide +kernel
theorem dX12_clear_6 : decode cX12_clear 6 = .ok (.getfield 68, 3) := by decide +kernel
theorem dX12_clear_9 : decode cX12_clear 9 = .ok (.istore_n 1, 1) := by decide +kernel
theorem dX12_clear_10 : decode cX12_clear 10 = .ok (.aload_n 0, 1) := by decide +kernel
theorem dX12_clear_11 : decode cX12_clear 11 = .ok (.iconst 0, 1) := by decide +kernel
theorem dX12_clear_12 : decode cX12_clear 12 = .ok (.putfield 68, 3) := by decide +kernel
theorem dX12_clear_15 : decode cX12_clear 15 = .ok (.iload_n 1, 1) := by decide +kernel
theorem dX12_clear_16 : decode cX12_clear 16 = .ok (.ireturn, 1) := by decide +kernel
theorem dX12_letterAt_0 : decode cX12_letterAt 0 = .ok (.iload_n 1, 1) := by decide +kernel
theorem dX12_letterAt_1 : decode cX12_letterAt 1 = .ok (.aload_n 0, 1) := by decide +kernel
theorem dX12_letterAt_2 : decode cX12_letterAt 2 = .ok (.getfield 68, 3) := by decide +kernel
theorem dX12_letterAt_5 : decode cX12_letterAt 5 = .ok (.if_icmp .ge 12, 3) := by decide +kernel
theorem dX12_letterAt_8 : decode cX12_letterAt 8 = .ok (.aload_n 0, 1) := by decide +kernel
theorem dX12_letterAt_9 : decode cX12_letterAt 9 = .ok (.getfield 7, 3) := by decide +kernel
theorem dX12_letterAt_12 : decode cX12_letterAt 12 = .ok (.iload_n 1, 1) := by decide +kernel
theorem dX12_letterAt_13 : decode cX12_letterAt 13 = .ok (.iaload, 1) := by decide +kernel
theorem dX12_letterAt_14 : decode cX12_letterAt 14 = .ok (.goto 4, 3) := by decide +kernel
theorem dX12_letterAt_17 : decode cX12_letterAt 17 = .ok (.iconst (-1), 1) := by decide +kernel
theorem dX12_letterAt_18 : decode cX12_letterAt 18 = .ok (.ireturn, 1) := by decide +kernel
theorem dX12_advances_0 : decode cX12_advances 0 = .ok (.aload_n 0, 1) := by decide +kernel
theorem dX12_advances_1 : decode cX12_advances 1 = .ok (.aload_n 0, 1) := by decide +kernel
theorem dX12_advances_2 : decode cX12_advances 2 = .ok (.getfield 71, 3) := by decide +kernel
theorem dX12_advances_5 : decode cX12_advances 5 = .ok (.invokevirtual 74, 3) := by decide +kernel
theorem dX12_advances_8 : decode cX12_advances 8 = .ok (.bipush 32, 2) := by decide +kernel
theorem dX12_advances_10 : decode cX12_advances 10 = .ok (.if_icmp .ne 16, 3) := by decide +kernel
theorem dX12_advances_13 : decode cX12_advances 13 = .ok (.aload_n 0, 1) := by decide +kernel
theorem dX12_advances_14 : decode cX12_advances 14 = .ok (.dup, 1) := by decide +kernel
theorem dX12_advances_15 : decode cX12_advances 15 = .ok (.getfield 71, 3) := by decide +kernel
theorem dX12_advances_18 : decode cX12_advances 18 = .ok (.iconst 1, 1) := by decide +kernel
theorem dX12_advances_19 : decode cX12_advances 19 = .ok (.iadd, 1) := by decide +kernel
theorem dX12_advances_20 : decode cX12_advances 20 = .ok (.putfield 71, 3) := by decide +kernel
theorem dX12_advances_23 : decode cX12_advances 23 = .ok (.goto (-23), 3) := by decide +kernel
theorem dX12_advances_26 : decode cX12_advances 26 = .ok (.aload_n 0, 1) := by decide +kernel
theorem dX12_advances_27 : decode cX12_advances 27 = .ok (.aload_n 0, 1) := by decide +kernel
theorem dX12_advances_28 : decode cX12_advances 28 = .ok (.getfield 71, 3) := by decide +kernel
theorem dX12_advances_31 : decode cX12_advances 31 = .ok (.putfield 78, 3) := by decide +kernel
theorem dX12_advances_34 : decode cX12_advances 34 = .ok (.aload_n 0, 1) := by decide +kernel
theorem dX12_advances_35 : decode cX12_advances 35 = .ok (.aload_n 0, 1) := by decide +kernel
theorem dX12_advances_36 : decode cX12_advances 36 = .ok (.getfield 71, 3) := by decide +kernel
theorem dX12_advances_39 : decode cX12_advances 39 = .ok (.invokevirtual 74, 3) := by decide +kernel
theorem dX12_advances_42 : decode cX12_advances 42 = .ok (.istore_n 1, 1) := by decide +kernel
theorem dX12_advances_43 : decode cX12_advances 43 = .ok (.iload_n 1, 1) := by decide +kernel
theorem dX12_advances_44 : decode cX12_advances 44 = .ok (.ifCond .ge 11, 3) := by decide +kernel
theorem dX12_advances_47 : decode cX12_advances 47 = .ok (.aload_n 0, 1) := by decide +kernel
theorem dX12_advances_48 : decode cX12_advances 48 = .ok (.iconst 0, 1) := by decide +kernel
theorem dX12_advances_49 : decode cX12_advances 49 = .ok (.putfield 81, 3) := by decide +kernel
theorem dX12_advances_52 : decode cX12_advances 52 = .ok (.goto 187, 3) := by decide +kernel
theorem dX12_advances_55 : decode cX12_advances 55 = .ok (.iload_n 1, 1) := by decide +kernel
theorem dX12_advances_56 : decode cX12_advances 56 = .ok (.bipush 48, 2) := by decide +kernel
theorem dX12_advances_58 : decode cX12_advances 58 = .ok (.bipush 57, 2) := by decide +kernel
theorem dX12_advances_60 : decode cX12_advances 60 = .ok (.invokestatic 64, 3) := by decide +kernel
theorem dX12_advances_63 : decode cX12_advances 63 = .ok (.ifCond .eq 118, 3) := by decide +kernel
theorem dX12_advances_66 : decode cX12_advances 66 = .ok (.aload_n 0, 1) := by decide +kernel
theorem dX12_advances_67 : decode cX12_advances 67 = .ok (.iconst 0, 1) := by decide +kernel
theorem dX12_advances_68 : decode cX12_advances 68 = .ok (.putfield 84, 3) := by decide +kernel
theorem dX12_advances_71 : decode cX12_advances 71 = .ok (.aload_n 0, 1) := by decide +kernel
theorem dX12_advances_72 : decode cX12_advances 72 = .ok (.aload_n 0, 1) := by decide +kernel
theorem dX12_advances_73 : decode cX12_advances 73 = .ok (.getfield 71, 3) := by decide +kernel
theorem dX12_advances_76 : decode cX12_advances 76 = .ok (.invokevirtual 74, 3) := by decide +kernel
theorem dX12_advances_79 : decode cX12_advances 79 = .ok (.bipush 48, 2) := by decide +kernel
theorem dX12_advances_81 : decode cX12_advances 81 = .ok (.bipush 57, 2) := by decide +kernel
theorem dX12_advances_83 : decode cX12_advances 83 = .ok (.invokestatic 64, 3) := by decide +kernel
theorem dX12_advances_86 : decode cX12_advances 86 = .ok (.ifCond .eq 55, 3) := by decide +kernel
theorem dX12_advances_89 : decode cX12_advances 89 = .ok (.aload_n 0, 1) := by decide +kernel
theorem dX12_advances_90 : decode cX12_advances 90 = .ok (.aload_n 0, 1) := by decide +kernel
theorem dX12_advances_91 : decode cX12_advances 91 = .ok (.getfield 84, 3) := by decide +kernel
theorem dX12_advances_94 : decode cX12_advances 94 = .ok (.bipush 100, 2) := by decide +kernel
theorem dX12_advances_96 : decode cX12_advances 96 = .ok (.if_icmp .le 10, 3) := by decide +kernel
theorem dX12_advances_99 : decode cX12_advances 99 = .ok (.aload_n 0, 1) := by decide +kernel
theorem dX12_advances_100 : decode cX12_advances 100 = .ok (.getfield 84, 3) := by decide +kernel
theorem dX12_advances_103 : decode cX12_advances 103 = .ok (.goto 22, 3) := by decide +kernel
theorem dX12_advances_106 : decode cX12_advances 106 = .ok (.bipush 10, 2) := by decide +kernel
theorem dX12_advances_108 : decode cX12_advances 108 = .ok (.aload_n 0, 1) := by decide +kernel
theorem dX12_advances_109 : decode cX12_advances 109 = .ok (.getfield 84, 3) := by decide +kernel
theorem dX12_advances_112 : decode cX12_advances 112 = .ok (.imul, 1) := by decide +kernel
theorem dX12_advances_113 : decode cX12_advances 113 = .ok (.aload_n 0, 1) := by decide +kernel
theorem dX12_advances_114 : decode cX12_advances 114 = .ok (.aload_n 0, 1) := by decide +kernel
theorem dX12_advances_115 : decode cX12_advances 115 = .ok (.getfield 71, 3) := by decide +kernel
theorem dX12_advances_118 : decode cX12_advances 118 = .ok (.invokevirtual 74, 3) := by decide +kernel
theorem dX12_advances_121 : decode cX12_advances 121 = .ok (.iadd, 1) := by decide +kernel
theorem dX12_advances_122 : decode cX12_advances 122 = .ok (.bipush 48, 2) := by decide +kernel
theorem dX12_advances_124 : decode cX12_advances 124 = .ok (.isub, 1) := by decide +kernel
theorem dX12_advances_125 : decode cX12_advances 125 = .ok (.putfield 84, 3) := by decide +kernel
theorem dX12_advances_128 : decode cX12_advances 128 = .ok (.aload_n 0, 1) := by decide +kernel
theorem dX12_advances_129 : decode cX12_advances 129 = .ok (.dup, 1) := by decide +kernel
theorem dX12_advances_130 : decode cX12_advances 130 = .ok (.getfield 71, 3) := by decide +kernel
theorem dX12_advances_133 : decode cX12_advances 133 = .ok (.iconst 1, 1) := by decide +kernel
theorem dX12_advances_134 : decode cX12_advances 134 = .ok (.iadd, 1) := by decide +kernel
theorem dX12_advances_135 : decode cX12_advances 135 = .ok (.putfield 71, 3) := by decide +kernel
theorem dX12_advances_138 : decode cX12_advances 138 = .ok (.goto (-67), 3) := by decide +kernel
theorem dX12_advances_141 : decode cX12_advances 141 = .ok (.aload_n 0, 1) := by decide +kernel
theorem dX12_advances_142 : decode cX12_advances 142 = .ok (.aload_n 0, 1) := by decide +kernel
theorem dX12_advances_143 : decode cX12_advances 143 = .ok (.getfield 84, 3) := by decide +kernel
theorem dX12_advances_146 : decode cX12_advances 146 = .ok (.bipush 100, 2) := by decide +kernel
theorem dX12_advances_148 : decode cX12_advances 148 = .ok (.if_icmp .gt 22, 3) := by decide +kernel
theorem dX12_advances_151 : decode cX12_advances 151 = .ok (.iload_n 1, 1) := by decide +kernel
theorem dX12_advances_152 : decode cX12_advances 152 = .ok (.bipush 48, 2) := by decide +kernel
theorem dX12_advances_154 : decode cX12_advances 154 = .ok (.if_icmp .ne 20, 3) := by decide +kernel
theorem dX12_advances_157 : decode cX12_advances 157 = .ok (.aload_n 0, 1) := by decide +kernel
theorem dX12_advances_158 : decode cX12_advances 158 = .ok (.getfield 71, 3) := by decide +kernel
theorem dX12_advances_161 : decode cX12_advances 161 = .ok (.aload_n 0, 1) := by decide +kernel
theorem dX12_advances_162 : decode cX12_advances 162 = .ok (.getfield 78, 3) := by decide +kernel
theorem dX12_advances_165 : decode cX12_advances 165 = .ok (.isub, 1) := by decide +kernel
theorem dX12_advances_166 : decode cX12_advances 166 = .ok (.iconst 1, 1) := by decide +kernel
theorem dX12_advances_167 : decode cX12_advances 167 = .ok (.if_icmp .le 7, 3) := by decide +kernel
theorem dX12_advances_170 : decode cX12_advances 170 = .ok (.iconst 4, 1) := by decide +kernel
theorem dX12_advances_171 : decode cX12_advances 171 = .ok (.goto 4, 3) := by decide +kernel
theorem dX12_advances_174 : decode cX12_advances 174 = .ok (.iconst 2, 1) := by decide +kernel
theorem dX12_advances_175 : decode cX12_advances 175 = .ok (.putfield 81, 3) := by decide +kernel
theorem dX12_advances_178 : decode cX12_advances 178 = .ok (.goto 61, 3) := by decide +kernel
theorem dX12_advances_181 : decode cX12_advances 181 = .ok (.aload_n 0, 1) := by decide +kernel
theorem dX12_advances_182 : decode cX12_advances 182 = .ok (.dup, 1) := by decide +kernel
theorem dX12_advances_183 : decode cX12_advances 183 = .ok (.getfield 71, 3) := by decide +kernel
theorem dX12_advances_186 : decode cX12_advances 186 = .ok (.iconst 1, 1) := by decide +kernel
theorem dX12_advances_187 : decode cX12_advances 187 = .ok (.iadd, 1) := by decide +kernel
theorem dX12_advances_188 : decode cX12_advances 188 = .ok (.putfield 71, 3) := by decide +kernel
theorem dX12_advances_191 : decode cX12_advances 191 = .ok (.aload_n 0, 1) := by decide +kernel
theorem dX12_advances_192 : decode cX12_advances 192 = .ok (.iload_n 1, 1) := by decide +kernel
theorem dX12_advances_193 : decode cX12_advances 193 = .ok (.putfield 84, 3) := by decide +kernel
theorem dX12_advances_196 : decode cX12_advances 196 = .ok (.aload_n 0, 1) := by decide +kernel
theorem dX12_advances_197 : decode cX12_advances 197 = .ok (.iload_n 1, 1) := by decide +kernel
theorem dX12_advances_198 : decode cX12_advances 198 = .ok (.bipush 59, 2) := by decide +kernel
theorem dX12_advances_200 : decode cX12_advances 200 = .ok (.if_icmp .ne 7, 3) := by decide +kernel
theorem dX12_advances_203 : decode cX12_advances 203 = .ok (.iconst 3, 1) := by decide +kernel
theorem dX12_advances_204 : decode cX12_advances 204 = .ok (.goto 32, 3) := by decide +kernel
theorem dX12_advances_207 : decode cX12_advances 207 = .ok (.iload_n 1, 1) := by decide +kernel
theorem dX12_advances_208 : decode cX12_advances 208 = .ok (.bipush 116, 2) := by decide +kernel
theorem dX12_advances_210 : decode cX12_advances 210 = .ok (.if_icmp .eq 21, 3) := by decide +kernel
theorem dX12_advances_213 : decode cX12_advances 213 = .ok (.iload_n 1, 1) := by decide +kernel
theorem dX12_advances_214 : decode cX12_advances 214 = .ok (.bipush 104, 2) := by decide +kernel
theorem dX12_advances_216 : decode cX12_advances 216 = .ok (.if_icmp .eq 15, 3) := by decide +kernel
theorem dX12_advances_219 : decode cX12_advances 219 = .ok (.iload_n 1, 1) := by decide +kernel
theorem dX12_advances_220 : decode cX12_advances 220 = .ok (.bipush 99, 2) := by decide +kernel
theorem dX12_advances_222 : decode cX12_advances 222 = .ok (.if_icmp .eq 9, 3) := by decide +kernel
theorem dX12_advances_225 : decode cX12_advances 225 = .ok (.iload_n 1, 1) := by decide +kernel
theorem dX12_advances_226 : decode cX12_advances 226 = .ok (.bipush 100, 2) := by decide +kernel
theorem dX12_advances_228 : decode cX12_advances 228 = .ok (.if_icmp .ne 7, 3) := by decide +kernel
theorem dX12_advances_231 : decode cX12_advances 231 = .ok (.iconst 1, 1) := by decide +kernel
theorem dX12_advances_232 : decode cX12_advances 232 = .ok (.goto 4, 3) := by decide +kernel
theorem dX12_advances_235 : decode cX12_advances 235 = .ok (.iconst 4, 1) := by decide +kernel
theorem dX12_advances_236 : decode cX12_advances 236 = .ok (.putfield 81, 3) := by decide +kernel
theorem dX12_advances_239 : decode cX12_advances 239 = .ok (.return_, 1) := by decide +kernel
theorem dX12_isWell_0 : decode cX12_isWell 0 = .ok (.aload_n 0, 1) := by decide +kernel
theorem dX12_isWell_1 : decode cX12_isWell 1 = .ok (.getfield 87, 3) := by decide +kernel
theorem dX12_isWell_4 : decode cX12_isWell 4 = .ok (.ifCond .ge 7, 3) := by decide +kernel
theorem dX12_isWell_7 : decode cX12_isWell 7 = .ok (.iconst 1, 1) := by decide +kernel
theorem dX12_isWell_8 : decode cX12_isWell 8 = .ok (.goto 4, 3) := by decide +kernel
theorem dX12_isWell_11 : decode cX12_isWell 11 = .ok (.iconst 0, 1) := by decide +kernel
theorem dX12_isWell_12 : decode cX12_isWell 12 = .ok (.ireturn, 1) := by decide +kernel
theorem dX12_takes_0 : decode cX12_takes 0 = .ok (.aload_n 0, 1) := by decide +kernel
theorem dX12_takes_1 : decode cX12_takes 1 = .ok (.invokevirtual 90, 3) := by decide +kernel
theorem dX12_takes_4 : decode cX12_takes 4 = .ok (.ifCond .ne 5, 3) := by decide +kernel
theorem dX12_takes_7 : decode cX12_takes 7 = .ok (.iconst 0, 1) := by decide +kernel
theorem dX12_takes_8 : decode cX12_takes 8 = .ok (.ireturn, 1) := by decide +kernel
theorem dX12_takes_9 : decode cX12_takes 9 = .ok (.iload_n 1, 1) := by decide +kernel
theorem dX12_takes_10 : decode cX12_takes 10 = .ok (.ifCond .ne 13, 3) := by decide +kernel
theorem dX12_takes_13 : decode cX12_takes 13 = .ok (.aload_n 0, 1) := by decide +kernel
theorem dX12_takes_14 : decode cX12_takes 14 = .ok (.aload_n 0, 1) := by decide +kernel
theorem dX12_takes_15 : decode cX12_takes 15 = .ok (.getfield 78, 3) := by decide +kernel
theorem dX12_takes_18 : decode cX12_takes 18 = .ok (.putfield 87, 3) := by decide +kernel
theorem dX12_takes_21 : decode cX12_takes 21 = .ok (.iconst 0, 1) := by decide +kernel
theorem dX12_takes_22 : decode cX12_takes 22 = .ok (.ireturn, 1) := by decide +kernel
theorem dX12_takes_23 : decode cX12_takes 23 = .ok (.aload_n 0, 1) := by decide +kernel
theorem dX12_takes_24 : decode cX12_takes 24 = .ok (.getfield 84, 3) := by decide +kernel
theorem dX12_takes_27 : decode cX12_takes 27 = .ok (.istore_n 2, 1) := by decide +kernel
theorem dX12_takes_28 : decode cX12_takes 28 = .ok (.aload_n 0, 1) := by decide +kernel
theorem dX12_takes_29 : decode cX12_takes 29 = .ok (.invokevirtual 94, 3) := by decide +kernel
theorem dX12_takes_32 : decode cX12_takes 32 = .ok (.iload_n 2, 1) := by decide +kernel
theorem dX12_takes_33 : decode cX12_takes 33 = .ok (.ireturn, 1) := by decide +kernel
theorem dX12_number_0 : decode cX12_number 0 = .ok (.aload_n 0, 1) := by decide +kernel
theorem dX12_number_1 : decode cX12_number 1 = .ok (.aload_n 0, 1) := by decide +kernel
theorem dX12_number_2 : decode cX12_number 2 = .ok (.getfield 81, 3) := by decide +kernel
theorem dX12_number_5 : decode cX12_number 5 = .ok (.iconst 2, 1) := by decide +kernel
theorem dX12_number_6 : decode cX12_number 6 = .ok (.if_icmp .ne 19, 3) := by decide +kernel
theorem dX12_number_9 : decode cX12_number 9 = .ok (.aload_n 0, 1) := by decide +kernel
theorem dX12_number_10 : decode cX12_number 10 = .ok (.getfield 84, 3) := by decide +kernel
theorem dX12_number_13 : decode cX12_number 13 = .ok (.iload_n 1, 1) := by decide +kernel
theorem dX12_number_14 : decode cX12_number 14 = .ok (.iload_n 2, 1) := by decide +kernel
theorem dX12_number_15 : decode cX12_number 15 = .ok (.invokestatic 64, 3) := by decide +kernel
theorem dX12_number_18 : decode cX12_number 18 = .ok (.ifCond .eq 7, 3) := by decide +kernel
theorem dX12_number_21 : decode cX12_number 21 = .ok (.iconst 1, 1) := by decide +kernel
theorem dX12_number_22 : decode cX12_number 22 = .ok (.goto 4, 3) := by decide +kernel
theorem dX12_number_25 : decode cX12_number 25 = .ok (.iconst 0, 1) := by decide +kernel
theorem dX12_number_26 : decode cX12_number 26 = .ok (.invokevirtual 97, 3) := by decide +kernel
theorem dX12_number_29 : decode cX12_number 29 = .ok (.ireturn, 1) := by decide +kernel
theorem dX12_mayBegin_0 : decode cX12_mayBegin 0 = .ok (.aload_n 0, 1) := by decide +kernel
theorem dX12_mayBegin_1 : decode cX12_mayBegin 1 = .ok (.getfield 84, 3) := by decide +kernel
theorem dX12_mayBegin_4 : decode cX12_mayBegin 4 = .ok (.bipush 116, 2) := by decide +kernel
theorem dX12_mayBegin_6 : decode cX12_mayBegin 6 = .ok (.if_icmp .ne 19, 3) := by decide +kernel
theorem dX12_mayBegin_9 : decode cX12_mayBegin 9 = .ok (.aload_n 0, 1) := by decide +kernel
theorem dX12_mayBegin_10 : decode cX12_mayBegin 10 = .ok (.getfield 101, 3) := by decide +kernel
theorem dX12_mayBegin_13 : decode cX12_mayBegin 13 = .ok (.iconst 5, 1) := by decide +kernel
theorem dX12_mayBegin_14 : decode cX12_mayBegin 14 = .ok (.if_icmp .ge 7, 3) := by decide +kernel
theorem dX12_mayBegin_17 : decode cX12_mayBegin 17 = .ok (.iconst 1, 1) := by decide +kernel
theorem dX12_mayBegin_18 : decode cX12_mayBegin 18 = .ok (.goto 72, 3) := by decide +kernel
theorem dX12_mayBegin_21 : decode cX12_mayBegin 21 = .ok (.iconst 0, 1) := by decide +kernel
theorem dX12_mayBegin_22 : decode cX12_mayBegin 22 = .ok (.goto 68, 3) := by decide +kernel
theorem dX12_mayBegin_25 : decode cX12_mayBegin 25 = .ok (.aload_n 0, 1) := by decide +kernel
theorem dX12_mayBegin_26 : decode cX12_mayBegin 26 = .ok (.getfield 84, 3) := by decide +kernel
theorem dX12_mayBegin_29 : decode cX12_mayBegin 29 = .ok (.bipush 104, 2) := by decide +kernel
theorem dX12_mayBegin_31 : decode cX12_mayBegin 31 = .ok (.if_icmp .ne 20, 3) := by decide +kernel
theorem dX12_mayBegin_34 : decode cX12_mayBegin 34 = .ok (.aload_n 0, 1) := by decide +kernel
theorem dX12_mayBegin_35 : decode cX12_mayBegin 35 = .ok (.getfield 104, 3) := by decide +kernel
theorem dX12_mayBegin_38 : decode cX12_mayBegin 38 = .ok (.bipush (-9), 2) := by decide +kernel
theorem dX12_mayBegin_40 : decode cX12_mayBegin 40 = .ok (.if_icmp .ne 7, 3) := by decide +kernel
theorem dX12_mayBegin_43 : decode cX12_mayBegin 43 = .ok (.iconst 1, 1) := by decide +kernel
theorem dX12_mayBegin_44 : decode cX12_mayBegin 44 = .ok (.goto 46, 3) := by decide +kernel
theorem dX12_mayBegin_47 : decode cX12_mayBegin 47 = .ok (.iconst 0, 1) := by decide +kernel
theorem dX12_mayBegin_48 : decode cX12_mayBegin 48 = .ok (.goto 42, 3) := by decide +kernel
theorem dX12_mayBegin_51 : decode cX12_mayBegin 51 = .ok (.aload_n 0, 1) := by decide +kernel
theorem dX12_mayBegin_52 : decode cX12_mayBegin 52 = .ok (.getfield 84, 3) := by decide +kernel
theorem dX12_mayBegin_55 : decode cX12_mayBegin 55 = .ok (.bipush 99, 2) := by decide +kernel
theorem dX12_mayBegin_57 : decode cX12_mayBegin 57 = .ok (.if_icmp .ne 20, 3) := by decide +kernel
theorem dX12_mayBegin_60 : decode cX12_mayBegin 60 = .ok (.aload_n 0, 1) := by decide +kernel
theorem dX12_mayBegin_61 : decode cX12_mayBegin 61 = .ok (.getfield 107, 3) := by decide +kernel
theorem dX12_mayBegin_64 : decode cX12_mayBegin 64 = .ok (.bipush 8, 2) := by decide +kernel
theorem dX12_mayBegin_66 : decode cX12_mayBegin 66 = .ok (.if_icmp .ge 7, 3) := by decide +kernel
theorem dX12_mayBegin_69 : decode cX12_mayBegin 69 = .ok (.iconst 1, 1) := by decide +kernel
theorem dX12_mayBegin_70 : decode cX12_mayBegin 70 = .ok (.goto 20, 3) := by decide +kernel
theorem dX12_mayBegin_73 : decode cX12_mayBegin 73 = .ok (.iconst 0, 1) := by decide +kernel
theorem dX12_mayBegin_74 : decode cX12_mayBegin 74 = .ok (.goto 16, 3) := by decide +kernel
theorem dX12_mayBegin_77 : decode cX12_mayBegin 77 = .ok (.aload_n 0, 1) := by decide +kernel
theorem dX12_mayBegin_78 : decode cX12_mayBegin 78 = .ok (.getfield 110, 3) := by decide +kernel
theorem dX12_mayBegin_81 : decode cX12_mayBegin 81 = .ok (.iconst 2, 1) := by decide +kernel
theorem dX12_mayBegin_82 : decode cX12_mayBegin 82 = .ok (.if_icmp .ge 7, 3) := by decide +kernel
theorem dX12_mayBegin_85 : decode cX12_mayBegin 85 = .ok (.iconst 1, 1) := by decide +kernel
theorem dX12_mayBegin_86 : decode cX12_mayBegin 86 = .ok (.goto 4, 3) := by decide +kernel
theorem dX12_mayBegin_89 : decode cX12_mayBegin 89 = .ok (.iconst 0, 1) := by decide +kernel
theorem dX12_mayBegin_90 : decode cX12_mayBegin 90 = .ok (.ireturn, 1) := by decide +kernel
theorem dX12_readsItem_0 : decode cX12_readsItem 0 = .ok (.iload_n 1, 1) := by decide +kernel
theorem dX12_readsItem_1 : decode cX12_readsItem 1 = .ok (.bipush 116, 2) := by decide +kernel
theorem dX12_readsItem_3 : decode cX12_readsItem 3 = .ok (.if_icmp .ne 69, 3) := by decide +kernel
theorem dX12_readsItem_6 : decode cX12_readsItem 6 = .ok (.bipush 15, 2) := by decide +kernel
theorem dX12_readsItem_8 : decode cX12_readsItem 8 = .ok (.iconst 3, 1) := by decide +kernel
theorem dX12_readsItem_9 : decode cX12_readsItem 9 = .ok (.aload_n 0, 1) := by decide +kernel
theorem dX12_readsItem_10 : decode cX12_readsItem 10 = .ok (.getfield 101, 3) := by decide +kernel
theorem dX12_readsItem_13 : decode cX12_readsItem 13 = .ok (.imul, 1) := by decide +kernel
theorem dX12_readsItem_14 : decode cX12_readsItem 14 = .ok (.iadd, 1) := by decide +kernel
theorem dX12_readsItem_15 : decode cX12_readsItem 15 = .ok (.istore_n 2, 1) := by decide +kernel
theorem dX12_readsItem_16 : decode cX12_readsItem 16 = .ok (.aload_n 0, 1) := by decide +kernel
theorem dX12_readsItem_17 : decode cX12_readsItem 17 = .ok (.getfield 13, 3) := by decide +kernel
theorem dX12_readsItem_20 : decode cX12_readsItem 20 = .ok (.iload_n 2, 1) := by decide +kernel
theorem dX12_readsItem_21 : decode cX12_readsItem 21 = .ok (.aload_n 0, 1) := by decide +kernel
theorem dX12_readsItem_22 : decode cX12_readsItem 22 = .ok (.iconst 0, 1) := by decide +kernel
theorem dX12_readsItem_23 : decode cX12_readsItem 23 = .ok (.bipush 100, 2) := by decide +kernel
theorem dX12_readsItem_25 : decode cX12_readsItem 25 = .ok (.invokevirtual 113, 3) := by decide +kernel
theorem dX12_readsItem_28 : decode cX12_readsItem 28 = .ok (.iastore, 1) := by decide +kernel
theorem dX12_readsItem_29 : decode cX12_readsItem 29 = .ok (.aload_n 0, 1) := by decide +kernel
theorem dX12_readsItem_30 : decode cX12_readsItem 30 = .ok (.getfield 13, 3) := by decide +kernel
theorem dX12_readsItem_33 : decode cX12_readsItem 33 = .ok (.iload_n 2, 1) := by decide +kernel
theorem dX12_readsItem_34 : decode cX12_readsItem 34 = .ok (.iconst 1, 1) := by decide +kernel
theorem dX12_readsItem_35 : decode cX12_readsItem 35 = .ok (.iadd, 1) := by decide +kernel
theorem dX12_readsItem_36 : decode cX12_readsItem 36 = .ok (.aload_n 0, 1) := by decide +kernel
theorem dX12_readsItem_37 : decode cX12_readsItem 37 = .ok (.iconst 1, 1) := by decide +kernel
theorem dX12_readsItem_38 : decode cX12_readsItem 38 = .ok (.bipush 30, 2) := by decide +kernel
theorem dX12_readsItem_40 : decode cX12_readsItem 40 = .ok (.invokevirtual 113, 3) := by decide +kernel
theorem dX12_readsItem_43 : decode cX12_readsItem 43 = .ok (.iastore, 1) := by decide +kernel
theorem dX12_readsItem_44 : decode cX12_readsItem 44 = .ok (.aload_n 0, 1) := by decide +kernel
theorem dX12_readsItem_45 : decode cX12_readsItem 45 = .ok (.getfield 13, 3) := by decide +kernel
theorem dX12_readsItem_48 : decode cX12_readsItem 48 = .ok (.iload_n 2, 1) := by decide +kernel
theorem dX12_readsItem_49 : decode cX12_readsItem 49 = .ok (.iconst 2, 1) := by decide +kernel
theorem dX12_readsItem_50 : decode cX12_readsItem 50 = .ok (.iadd, 1) := by decide +kernel
theorem dX12_readsItem_51 : decode cX12_readsItem 51 = .ok (.aload_n 0, 1) := by decide +kernel
theorem dX12_readsItem_52 : decode cX12_readsItem 52 = .ok (.iconst 0, 1) := by decide +kernel
theorem dX12_readsItem_53 : decode cX12_readsItem 53 = .ok (.bipush 9, 2) := by decide +kernel
theorem dX12_readsItem_55 : decode cX12_readsItem 55 = .ok (.invokevirtual 113, 3) := by decide +kernel
theorem dX12_readsItem_58 : decode cX12_readsItem 58 = .ok (.iastore, 1) := by decide +kernel
theorem dX12_readsItem_59 : decode cX12_readsItem 59 = .ok (.aload_n 0, 1) := by decide +kernel
theorem dX12_readsItem_60 : decode cX12_readsItem 60 = .ok (.dup, 1) := by decide +kernel
theorem dX12_readsItem_61 : decode cX12_readsItem 61 = .ok (.getfield 101, 3) := by decide +kernel
theorem dX12_readsItem_64 : decode cX12_readsItem 64 = .ok (.iconst 1, 1) := by decide +kernel
theorem dX12_readsItem_65 : decode cX12_readsItem 65 = .ok (.iadd, 1) := by decide +kernel
theorem dX12_readsItem_66 : decode cX12_readsItem 66 = .ok (.putfield 101, 3) := by decide +kernel
theorem dX12_readsItem_69 : decode cX12_readsItem 69 = .ok (.goto 150, 3) := by decide +kernel
theorem dX12_readsItem_72 : decode cX12_readsItem 72 = .ok (.iload_n 1, 1) := by decide +kernel
theorem dX12_readsItem_73 : decode cX12_readsItem 73 = .ok (.bipush 104, 2) := by decide +kernel
theorem dX12_readsItem_75 : decode cX12_readsItem 75 = .ok (.if_icmp .ne 16, 3) := by decide +kernel
theorem dX12_readsItem_78 : decode cX12_readsItem 78 = .ok (.aload_n 0, 1) := by decide +kernel
theorem dX12_readsItem_79 : decode cX12_readsItem 79 = .ok (.aload_n 0, 1) := by decide +kernel
theorem dX12_readsItem_80 : decode cX12_readsItem 80 = .ok (.iconst 1, 1) := by decide +kernel
theorem dX12_readsItem_81 : decode cX12_readsItem 81 = .ok (.iconst 2, 1) := by decide +kernel
theorem dX12_readsItem_82 : decode cX12_readsItem 82 = .ok (.invokevirtual 113, 3) := by decide +kernel
theorem dX12_readsItem_85 : decode cX12_readsItem 85 = .ok (.putfield 104, 3) := by decide +kernel
theorem dX12_readsItem_88 : decode cX12_readsItem 88 = .ok (.goto 131, 3) := by decide +kernel
theorem dX12_readsItem_91 : decode cX12_readsItem 91 = .ok (.iload_n 1, 1) := by decide +kernel
theorem dX12_readsItem_92 : decode cX12_readsItem 92 = .ok (.bipush 99, 2) := by decide +kernel
theorem dX12_readsItem_94 : decode cX12_readsItem 94 = .ok (.if_icmp .ne 73, 3) := by decide +kernel
theorem dX12_readsItem_97 : decode cX12_readsItem 97 = .ok (.bipush 24, 2) := by decide +kernel
theorem dX12_readsItem_99 : decode cX12_readsItem 99 = .ok (.iconst 3, 1) := by decide +kernel
theorem dX12_readsItem_100 : decode cX12_readsItem 100 = .ok (.aload_n 0, 1) := by decide +kernel
theorem dX12_readsItem_101 : decode cX12_readsItem 101 = .ok (.getfield 107, 3) := by decide +kernel
theorem dX12_readsItem_104 : decode cX12_readsItem 104 = .ok (.imul, 1) := by decide +kernel
theorem dX12_readsItem_105 : decode cX12_readsItem 105 = .ok (.iadd, 1) := by decide +kernel
theorem dX12_readsItem_106 : decode cX12_readsItem 106 = .ok (.istore_n 2, 1) := by decide +kernel
theorem dX12_readsItem_107 : decode cX12_readsItem 107 = .ok (.aload_n 0, 1) := by decide +kernel
theorem dX12_readsItem_108 : decode cX12_readsItem 108 = .ok (.getfield 16, 3) := by decide +kernel
theorem dX12_readsItem_111 : decode cX12_readsItem 111 = .ok (.iload_n 2, 1) := by decide +kernel
theorem dX12_readsItem_112 : decode cX12_readsItem 112 = .ok (.aload_n 0, 1) := by decide +kernel
theorem dX12_readsItem_113 : decode cX12_readsItem 113 = .ok (.iconst 0, 1) := by decide +kernel
theorem dX12_readsItem_114 : decode cX12_readsItem 114 = .ok (.aload_n 0, 1) := by decide +kernel
theorem dX12_readsItem_115 : decode cX12_readsItem 115 = .ok (.getfield 101, 3) := by decide +kernel
theorem dX12_readsItem_118 : decode cX12_readsItem 118 = .ok (.iconst 1, 1) := by decide +kernel
theorem dX12_readsItem_119 : decode cX12_readsItem 119 = .ok (.isub, 1) := by decide +kernel
theorem dX12_readsItem_120 : decode cX12_readsItem 120 = .ok (.invokevirtual 113, 3) := by decide +kernel
theorem dX12_readsItem_123 : decode cX12_readsItem 123 = .ok (.iastore, 1) := by decide +kernel
theorem dX12_readsItem_124 : decode cX12_readsItem 124 = .ok (.aload_n 0, 1) := by decide +kernel
theorem dX12_readsItem_125 : decode cX12_readsItem 125 = .ok (.getfield 16, 3) := by decide +kernel
theorem dX12_readsItem_128 : decode cX12_readsItem 128 = .ok (.iload_n 2, 1) := by decide +kernel
theorem dX12_readsItem_129 : decode cX12_readsItem 129 = .ok (.iconst 1, 1) := by decide +kernel
theorem dX12_readsItem_130 : decode cX12_readsItem 130 = .ok (.iadd, 1) := by decide +kernel
theorem dX12_readsItem_131 : decode cX12_readsItem 131 = .ok (.aload_n 0, 1) := by decide +kernel
theorem dX12_readsItem_132 : decode cX12_readsItem 132 = .ok (.iconst 0, 1) := by decide +kernel
theorem dX12_readsItem_133 : decode cX12_readsItem 133 = .ok (.bipush 60, 2) := by decide +kernel
theorem dX12_readsItem_135 : decode cX12_readsItem 135 = .ok (.invokevirtual 113, 3) := by decide +kernel
theorem dX12_readsItem_138 : decode cX12_readsItem 138 = .ok (.iastore, 1) := by decide +kernel
theorem dX12_readsItem_139 : decode cX12_readsItem 139 = .ok (.aload_n 0, 1) := by decide +kernel
theorem dX12_readsItem_140 : decode cX12_readsItem 140 = .ok (.getfield 16, 3) := by decide +kernel
theorem dX12_readsItem_143 : decode cX12_readsItem 143 = .ok (.iload_n 2, 1) := by decide +kernel
theorem dX12_readsItem_144 : decode cX12_readsItem 144 = .ok (.iconst 2, 1) := by decide +kernel
theorem dX12_readsItem_145 : decode cX12_readsItem 145 = .ok (.iadd, 1) := by decide +kernel
theorem dX12_readsItem_146 : decode cX12_readsItem 146 = .ok (.aload_n 0, 1) := by decide +kernel
theorem dX12_readsItem_147 : decode cX12_readsItem 147 = .ok (.iconst 1, 1) := by decide +kernel
theorem dX12_readsItem_148 : decode cX12_readsItem 148 = .ok (.bipush 50, 2) := by decide +kernel
theorem dX12_readsItem_150 : decode cX12_readsItem 150 = .ok (.invokevirtual 113, 3) := by decide +kernel
theorem dX12_readsItem_153 : decode cX12_readsItem 153 = .ok (.iastore, 1) := by decide +kernel
theorem dX12_readsItem_154 : decode cX12_readsItem 154 = .ok (.aload_n 0, 1) := by decide +kernel
theorem dX12_readsItem_155 : decode cX12_readsItem 155 = .ok (.dup, 1) := by decide +kernel
theorem dX12_readsItem_156 : decode cX12_readsItem 156 = .ok (.getfield 107, 3) := by decide +kernel
theorem dX12_readsItem_159 : decode cX12_readsItem 159 = .ok (.iconst 1, 1) := by decide +kernel
theorem dX12_readsItem_160 : decode cX12_readsItem 160 = .ok (.iadd, 1) := by decide +kernel
theorem dX12_readsItem_161 : decode cX12_readsItem 161 = .ok (.putfield 107, 3) := by decide +kernel
theorem dX12_readsItem_164 : decode cX12_readsItem 164 = .ok (.goto 55, 3) := by decide +kernel
theorem dX12_readsItem_167 : decode cX12_readsItem 167 = .ok (.iconst 4, 1) := by decide +kernel
theorem dX12_readsItem_168 : decode cX12_readsItem 168 = .ok (.iconst 2, 1) := by decide +kernel
theorem dX12_readsItem_169 : decode cX12_readsItem 169 = .ok (.aload_n 0, 1) := by decide +kernel
theorem dX12_readsItem_170 : decode cX12_readsItem 170 = .ok (.getfield 110, 3) := by decide +kernel
theorem dX12_readsItem_173 : decode cX12_readsItem 173 = .ok (.imul, 1) := by decide +kernel
theorem dX12_readsItem_174 : decode cX12_readsItem 174 = .ok (.iadd, 1) := by decide +kernel
theorem dX12_readsItem_175 : decode cX12_readsItem 175 = .ok (.istore_n 2, 1) := by decide +kernel
theorem dX12_readsItem_176 : decode cX12_readsItem 176 = .ok (.aload_n 0, 1) := by decide +kernel
theorem dX12_readsItem_177 : decode cX12_readsItem 177 = .ok (.getfield 19, 3) := by decide +kernel
theorem dX12_readsItem_180 : decode cX12_readsItem 180 = .ok (.iload_n 2, 1) := by decide +kernel
theorem dX12_readsItem_181 : decode cX12_readsItem 181 = .ok (.aload_n 0, 1) := by decide +kernel
theorem dX12_readsItem_182 : decode cX12_readsItem 182 = .ok (.iconst 0, 1) := by decide +kernel
theorem dX12_readsItem_183 : decode cX12_readsItem 183 = .ok (.bipush 60, 2) := by decide +kernel
theorem dX12_readsItem_185 : decode cX12_readsItem 185 = .ok (.invokevirtual 113, 3) := by decide +kernel
theorem dX12_readsItem_188 : decode cX12_readsItem 188 = .ok (.iastore, 1) := by decide +kernel
theorem dX12_readsItem_189 : decode cX12_readsItem 189 = .ok (.aload_n 0, 1) := by decide +kernel
theorem dX12_readsItem_190 : decode cX12_readsItem 190 = .ok (.getfield 19, 3) := by decide +kernel
theorem dX12_readsItem_193 : decode cX12_readsItem 193 = .ok (.iload_n 2, 1) := by decide +kernel
theorem dX12_readsItem_194 : decode cX12_readsItem 194 = .ok (.iconst 1, 1) := by decide +kernel
theorem dX12_readsItem_195 : decode cX12_readsItem 195 = .ok (.iadd, 1) := by decide +kernel
theorem dX12_readsItem_196 : decode cX12_readsItem 196 = .ok (.aload_n 0, 1) := by decide +kernel
theorem dX12_readsItem_197 : decode cX12_readsItem 197 = .ok (.aload_n 0, 1) := by decide +kernel
theorem dX12_readsItem_198 : decode cX12_readsItem 198 = .ok (.getfield 19, 3) := by decide +kernel
theorem dX12_readsItem_201 : decode cX12_readsItem 201 = .ok (.iload_n 2, 1) := by decide +kernel
theorem dX12_readsItem_202 : decode cX12_readsItem 202 = .ok (.iaload, 1) := by decide +kernel
theorem dX12_readsItem_203 : decode cX12_readsItem 203 = .ok (.bipush 60, 2) := by decide +kernel
theorem dX12_readsItem_205 : decode cX12_readsItem 205 = .ok (.invokevirtual 113, 3) := by decide +kernel
theorem dX12_readsItem_208 : decode cX12_readsItem 208 = .ok (.iastore, 1) := by decide +kernel
theorem dX12_readsItem_209 : decode cX12_readsItem 209 = .ok (.aload_n 0, 1) := by decide +kernel
theorem dX12_readsItem_210 : decode cX12_readsItem 210 = .ok (.dup, 1) := by decide +kernel
theorem dX12_readsItem_211 : decode cX12_readsItem 211 = .ok (.getfield 110, 3) := by decide +kernel
theorem dX12_readsItem_214 : decode cX12_readsItem 214 = .ok (.iconst 1, 1) := by decide +kernel
theorem dX12_readsItem_215 : decode cX12_readsItem 215 = .ok (.iadd, 1) := by decide +kernel
theorem dX12_readsItem_216 : decode cX12_readsItem 216 = .ok (.putfield 110, 3) := by decide +kernel
theorem dX12_readsItem_219 : decode cX12_readsItem 219 = .ok (.return_, 1) := by decide +kernel
theorem dX12_room_0 : decode cX12_room 0 = .ok (.aload_n 0, 1) := by decide +kernel
theorem dX12_room_1 : decode cX12_room 1 = .ok (.iconst 0, 1) := by decide +kernel
theorem dX12_room_2 : decode cX12_room 2 = .ok (.putfield 61, 3) := by decide +kernel
theorem dX12_room_5 : decode cX12_room 5 = .ok (.aload_n 0, 1) := by decide +kernel
theorem dX12_room_6 : decode cX12_room 6 = .ok (.iconst (-1), 1) := by decide +kernel
theorem dX12_room_7 : decode cX12_room 7 = .ok (.putfield 87, 3) := by decide +kernel
theorem dX12_room_10 : decode cX12_room 10 = .ok (.aload_n 0, 1) := by decide +kernel
theorem dX12_room_11 : decode cX12_room 11 = .ok (.iconst 0, 1) := by decide +kernel
theorem dX12_room_12 : decode cX12_room 12 = .ok (.putfield 71, 3) := by decide +kernel
theorem dX12_room_15 : decode cX12_room 15 = .ok (.iconst 0, 1) := by decide +kernel
theorem dX12_room_16 : decode cX12_room 16 = .ok (.istore_n 1, 1) := by decide +kernel
theorem dX12_room_17 : decode cX12_room 17 = .ok (.aload_n 0, 1) := by decide +kernel
theorem dX12_room_18 : decode cX12_room 18 = .ok (.iconst 0, 1) := by decide +kernel
theorem dX12_room_19 : decode cX12_room 19 = .ok (.putfield 101, 3) := by decide +kernel
theorem dX12_room_22 : decode cX12_room 22 = .ok (.aload_n 0, 1) := by decide +kernel
theorem dX12_room_23 : decode cX12_room 23 = .ok (.iconst 0, 1) := by decide +kernel
theorem dX12_room_24 : decode cX12_room 24 = .ok (.putfield 107, 3) := by decide +kernel
theorem dX12_room_27 : decode cX12_room 27 = .ok (.aload_n 0, 1) := by decide +kernel
theorem dX12_room_28 : decode cX12_room 28 = .ok (.iconst 0, 1) := by decide +kernel
theorem dX12_room_29 : decode cX12_room 29 = .ok (.putfield 110, 3) := by decide +kernel
theorem dX12_room_32 : decode cX12_room 32 = .ok (.aload_n 0, 1) := by decide +kernel
theorem dX12_room_33 : decode cX12_room 33 = .ok (.bipush (-9), 2) := by decide +kernel
theorem dX12_room_35 : decode cX12_room 35 = .ok (.putfield 104, 3) := by decide +kernel
theorem dX12_room_38 : decode cX12_room 38 = .ok (.aload_n 0, 1) := by decide +kernel
theorem dX12_room_39 : decode cX12_room 39 = .ok (.invokevirtual 94, 3) := by decide +kernel
theorem dX12_room_42 : decode cX12_room 42 = .ok (.aload_n 0, 1) := by decide +kernel
theorem dX12_room_43 : decode cX12_room 43 = .ok (.invokevirtual 90, 3) := by decide +kernel
theorem dX12_room_46 : decode cX12_room 46 = .ok (.ifCond .eq 71, 3) := by decide +kernel
theorem dX12_room_49 : decode cX12_room 49 = .ok (.aload_n 0, 1) := by decide +kernel
theorem dX12_room_50 : decode cX12_room 50 = .ok (.getfield 81, 3) := by decide +kernel
theorem dX12_room_53 : decode cX12_room 53 = .ok (.ifCond .eq 64, 3) := by decide +kernel
theorem dX12_room_56 : decode cX12_room 56 = .ok (.aload_n 0, 1) := by decide +kernel
theorem dX12_room_57 : decode cX12_room 57 = .ok (.aload_n 0, 1) := by decide +kernel
theorem dX12_room_58 : decode cX12_room 58 = .ok (.getfield 81, 3) := by decide +kernel
theorem dX12_room_61 : decode cX12_room 61 = .ok (.iconst 1, 1) := by decide +kernel
theorem dX12_room_62 : decode cX12_room 62 = .ok (.if_icmp .ne 14, 3) := by decide +kernel
theorem dX12_room_65 : decode cX12_room 65 = .ok (.aload_n 0, 1) := by decide +kernel
theorem dX12_room_66 : decode cX12_room 66 = .ok (.invokevirtual 117, 3) := by decide +kernel
theorem dX12_room_69 : decode cX12_room 69 = .ok (.ifCond .eq 7, 3) := by decide +kernel
theorem dX12_room_72 : decode cX12_room 72 = .ok (.iconst 1, 1) := by decide +kernel
theorem dX12_room_73 : decode cX12_room 73 = .ok (.goto 4, 3) := by decide +kernel
theorem dX12_room_76 : decode cX12_room 76 = .ok (.iconst 0, 1) := by decide +kernel
theorem dX12_room_77 : decode cX12_room 77 = .ok (.invokevirtual 97, 3) := by decide +kernel
theorem dX12_room_80 : decode cX12_room 80 = .ok (.istore_n 2, 1) := by decide +kernel
theorem dX12_room_81 : decode cX12_room 81 = .ok (.aload_n 0, 1) := by decide +kernel
theorem dX12_room_82 : decode cX12_room 82 = .ok (.invokevirtual 90, 3) := by decide +kernel
theorem dX12_room_85 : decode cX12_room 85 = .ok (.ifCond .eq 8, 3) := by decide +kernel
theorem dX12_room_88 : decode cX12_room 88 = .ok (.aload_n 0, 1) := by decide +kernel
theorem dX12_room_89 : decode cX12_room 89 = .ok (.iload_n 2, 1) := by decide +kernel
theorem dX12_room_90 : decode cX12_room 90 = .ok (.invokevirtual 120, 3) := by decide +kernel
theorem dX12_room_93 : decode cX12_room 93 = .ok (.aload_n 0, 1) := by decide +kernel
theorem dX12_room_94 : decode cX12_room 94 = .ok (.aload_n 0, 1) := by decide +kernel
theorem dX12_room_95 : decode cX12_room 95 = .ok (.getfield 81, 3) := by decide +kernel
theorem dX12_room_98 : decode cX12_room 98 = .ok (.iconst 3, 1) := by decide +kernel
theorem dX12_room_99 : decode cX12_room 99 = .ok (.if_icmp .ne 7, 3) := by decide +kernel
theorem dX12_room_102 : decode cX12_room 102 = .ok (.iconst 1, 1) := by decide +kernel
theorem dX12_room_103 : decode cX12_room 103 = .ok (.goto 4, 3) := by decide +kernel
theorem dX12_room_106 : decode cX12_room 106 = .ok (.iconst 0, 1) := by decide +kernel
theorem dX12_room_107 : decode cX12_room 107 = .ok (.invokevirtual 97, 3) := by decide +kernel
theorem dX12_room_110 : decode cX12_room 110 = .ok (.pop, 1) := by decide +kernel
theorem dX12_room_111 : decode cX12_room 111 = .ok (.iinc 1 1, 3) := by decide +kernel
theorem dX12_room_114 : decode cX12_room 114 = .ok (.goto (-72), 3) := by decide +kernel
theorem dX12_room_117 : decode cX12_room 117 = .ok (.aload_n 0, 1) := by decide +kernel
theorem dX12_room_118 : decode cX12_room 118 = .ok (.invokevirtual 90, 3) := by decide +kernel
theorem dX12_room_121 : decode cX12_room 121 = .ok (.ifCond .ne 11, 3) := by decide +kernel
theorem dX12_room_124 : decode cX12_room 124 = .ok (.bipush (-10), 2) := by decide +kernel
theorem dX12_room_126 : decode cX12_room 126 = .ok (.aload_n 0, 1) := by decide +kernel
theorem dX12_room_127 : decode cX12_room 127 = .ok (.getfield 87, 3) := by decide +kernel
theorem dX12_room_130 : decode cX12_room 130 = .ok (.isub, 1) := by decide +kernel
theorem dX12_room_131 : decode cX12_room 131 = .ok (.ireturn, 1) := by decide +kernel
theorem dX12_room_132 : decode cX12_room 132 = .ok (.aload_n 0, 1) := by decide +kernel
theorem dX12_room_133 : decode cX12_room 133 = .ok (.invokevirtual 124, 3) := by decide +kernel
theorem dX12_room_136 : decode cX12_room 136 = .ok (.iload_n 1, 1) := by decide +kernel
theorem dX12_room_137 : decode cX12_room 137 = .ok (.ireturn, 1) := by decide +kernel
theorem dX12_settles_0 : decode cX12_settles 0 = .ok (.aload_n 0, 1) := by decide +kernel
theorem dX12_settles_1 : decode cX12_settles 1 = .ok (.aload_n 0, 1) := by decide +kernel
theorem dX12_settles_2 : decode cX12_settles 2 = .ok (.getfield 101, 3) := by decide +kernel
theorem dX12_settles_5 : decode cX12_settles 5 = .ok (.putfield 127, 3) := by decide +kernel
theorem dX12_settles_8 : decode cX12_settles 8 = .ok (.aload_n 0, 1) := by decide +kernel
theorem dX12_settles_9 : decode cX12_settles 9 = .ok (.aload_n 0, 1) := by decide +kernel
theorem dX12_settles_10 : decode cX12_settles 10 = .ok (.getfield 107, 3) := by decide +kernel
theorem dX12_settles_13 : decode cX12_settles 13 = .ok (.putfield 130, 3) := by decide +kernel
theorem dX12_settles_16 : decode cX12_settles 16 = .ok (.aload_n 0, 1) := by decide +kernel
theorem dX12_settles_17 : decode cX12_settles 17 = .ok (.aload_n 0, 1) := by decide +kernel
theorem dX12_settles_18 : decode cX12_settles 18 = .ok (.getfield 110, 3) := by decide +kernel
theorem dX12_settles_21 : decode cX12_settles 21 = .ok (.putfield 133, 3) := by decide +kernel
theorem dX12_settles_24 : decode cX12_settles 24 = .ok (.aload_n 0, 1) := by decide +kernel
theorem dX12_settles_25 : decode cX12_settles 25 = .ok (.aload_n 0, 1) := by decide +kernel
theorem dX12_settles_26 : decode cX12_settles 26 = .ok (.getfield 104, 3) := by decide +kernel
theorem dX12_settles_29 : decode cX12_settles 29 = .ok (.bipush (-9), 2) := by decide +kernel
theorem dX12_settles_31 : decode cX12_settles 31 = .ok (.if_icmp .ne 7, 3) := by decide +kernel
theorem dX12_settles_34 : decode cX12_settles 34 = .ok (.iconst 1, 1) := by decide +kernel
theorem dX12_settles_35 : decode cX12_settles 35 = .ok (.goto 7, 3) := by decide +kernel
theorem dX12_settles_38 : decode cX12_settles 38 = .ok (.aload_n 0, 1) := by decide +kernel
theorem dX12_settles_39 : decode cX12_settles 39 = .ok (.getfield 104, 3) := by decide +kernel
theorem dX12_settles_42 : decode cX12_settles 42 = .ok (.putfield 57, 3) := by decide +kernel
theorem dX12_settles_45 : decode cX12_settles 45 = .ok (.iconst 0, 1) := by decide +kernel
theorem dX12_settles_46 : decode cX12_settles 46 = .ok (.istore_n 1, 1) := by decide +kernel
theorem dX12_settles_47 : decode cX12_settles 47 = .ok (.iload_n 1, 1) := by decide +kernel
theorem dX12_settles_48 : decode cX12_settles 48 = .ok (.bipush 15, 2) := by decide +kernel
theorem dX12_settles_50 : decode cX12_settles 50 = .ok (.if_icmp .ge 24, 3) := by decide +kernel
theorem dX12_settles_53 : decode cX12_settles 53 = .ok (.aload_n 0, 1) := by decide +kernel
theorem dX12_settles_54 : decode cX12_settles 54 = .ok (.getfield 13, 3) := by decide +kernel
theorem dX12_settles_57 : decode cX12_settles 57 = .ok (.iload_n 1, 1) := by decide +kernel
theorem dX12_settles_58 : decode cX12_settles 58 = .ok (.aload_n 0, 1) := by decide +kernel
theorem dX12_settles_59 : decode cX12_settles 59 = .ok (.getfield 13, 3) := by decide +kernel
theorem dX12_settles_62 : decode cX12_settles 62 = .ok (.bipush 15, 2) := by decide +kernel
theorem dX12_settles_64 : decode cX12_settles 64 = .ok (.iload_n 1, 1) := by decide +kernel
theorem dX12_settles_65 : decode cX12_settles 65 = .ok (.iadd, 1) := by decide +kernel
theorem dX12_settles_66 : decode cX12_settles 66 = .ok (.iaload, 1) := by decide +kernel
theorem dX12_settles_67 : decode cX12_settles 67 = .ok (.iastore, 1) := by decide +kernel
theorem dX12_settles_68 : decode cX12_settles 68 = .ok (.iinc 1 1, 3) := by decide +kernel
theorem dX12_settles_71 : decode cX12_settles 71 = .ok (.goto (-24), 3) := by decide +kernel
theorem dX12_settles_74 : decode cX12_settles 74 = .ok (.iconst 0, 1) := by decide +kernel
theorem dX12_settles_75 : decode cX12_settles 75 = .ok (.istore_n 1, 1) := by decide +kernel
theorem dX12_settles_76 : decode cX12_settles 76 = .ok (.iload_n 1, 1) := by decide +kernel
theorem dX12_settles_77 : decode cX12_settles 77 = .ok (.bipush 24, 2) := by decide +kernel
theorem dX12_settles_79 : decode cX12_settles 79 = .ok (.if_icmp .ge 24, 3) := by decide +kernel
theorem dX12_settles_82 : decode cX12_settles 82 = .ok (.aload_n 0, 1) := by decide +kernel
theorem dX12_settles_83 : decode cX12_settles 83 = .ok (.getfield 16, 3) := by decide +kernel
theorem dX12_settles_86 : decode cX12_settles 86 = .ok (.iload_n 1, 1) := by decide +kernel
theorem dX12_settles_87 : decode cX12_settles 87 = .ok (.aload_n 0, 1) := by decide +kernel
theorem dX12_settles_88 : decode cX12_settles 88 = .ok (.getfield 16, 3) := by decide +kernel
theorem dX12_settles_91 : decode cX12_settles 91 = .ok (.bipush 24, 2) := by decide +kernel
theorem dX12_settles_93 : decode cX12_settles 93 = .ok (.iload_n 1, 1) := by decide +kernel
theorem dX12_settles_94 : decode cX12_settles 94 = .ok (.iadd, 1) := by decide +kernel
theorem dX12_settles_95 : decode cX12_settles 95 = .ok (.iaload, 1) := by decide +kernel
theorem dX12_settles_96 : decode cX12_settles 96 = .ok (.iastore, 1) := by decide +kernel
theorem dX12_settles_97 : decode cX12_settles 97 = .ok (.iinc 1 1, 3) := by decide +kernel
theorem dX12_settles_100 : decode cX12_settles 100 = .ok (.goto (-24), 3) := by decide +kernel
theorem dX12_settles_103 : decode cX12_settles 103 = .ok (.iconst 0, 1) := by decide +kernel
theorem dX12_settles_104 : decode cX12_settles 104 = .ok (.istore_n 1, 1) := by decide +kernel
theorem dX12_settles_105 : decode cX12_settles 105 = .ok (.iload_n 1, 1) := by decide +kernel
theorem dX12_settles_106 : decode cX12_settles 106 = .ok (.iconst 4, 1) := by decide +kernel
theorem dX12_settles_107 : decode cX12_settles 107 = .ok (.if_icmp .ge 23, 3) := by decide +kernel
theorem dX12_settles_110 : decode cX12_settles 110 = .ok (.aload_n 0, 1) := by decide +kernel
theorem dX12_settles_111 : decode cX12_settles 111 = .ok (.getfield 19, 3) := by decide +kernel
theorem dX12_settles_114 : decode cX12_settles 114 = .ok (.iload_n 1, 1) := by decide +kernel
theorem dX12_settles_115 : decode cX12_settles 115 = .ok (.aload_n 0, 1) := by decide +kernel
theorem dX12_settles_116 : decode cX12_settles 116 = .ok (.getfield 19, 3) := by decide +kernel
theorem dX12_settles_119 : decode cX12_settles 119 = .ok (.iconst 4, 1) := by decide +kernel
theorem dX12_settles_120 : decode cX12_settles 120 = .ok (.iload_n 1, 1) := by decide +kernel
theorem dX12_settles_121 : decode cX12_settles 121 = .ok (.iadd, 1) := by decide +kernel
theorem dX12_settles_122 : decode cX12_settles 122 = .ok (.iaload, 1) := by decide +kernel
theorem dX12_settles_123 : decode cX12_settles 123 = .ok (.iastore, 1) := by decide +kernel
theorem dX12_settles_124 : decode cX12_settles 124 = .ok (.iinc 1 1, 3) := by decide +kernel
theorem dX12_settles_127 : decode cX12_settles 127 = .ok (.goto (-22), 3) := by decide +kernel
theorem dX12_settles_130 : decode cX12_settles 130 = .ok (.iconst 0, 1) := by decide +kernel
theorem dX12_settles_131 : decode cX12_settles 131 = .ok (.istore_n 1, 1) := by decide +kernel
theorem dX12_settles_132 : decode cX12_settles 132 = .ok (.iload_n 1, 1) := by decide +kernel
theorem dX12_settles_133 : decode cX12_settles 133 = .ok (.bipush 14, 2) := by decide +kernel
theorem dX12_settles_135 : decode cX12_settles 135 = .ok (.if_icmp .ge 16, 3) := by decide +kernel
theorem dX12_settles_138 : decode cX12_settles 138 = .ok (.aload_n 0, 1) := by decide +kernel
theorem dX12_settles_139 : decode cX12_settles 139 = .ok (.getfield 22, 3) := by decide +kernel
theorem dX12_settles_142 : decode cX12_settles 142 = .ok (.iload_n 1, 1) := by decide +kernel
theorem dX12_settles_143 : decode cX12_settles 143 = .ok (.iconst 0, 1) := by decide +kernel
theorem dX12_settles_144 : decode cX12_settles 144 = .ok (.iastore, 1) := by decide +kernel
theorem dX12_settles_145 : decode cX12_settles 145 = .ok (.iinc 1 1, 3) := by decide +kernel
theorem dX12_settles_148 : decode cX12_settles 148 = .ok (.goto (-16), 3) := by decide +kernel
theorem dX12_settles_151 : decode cX12_settles 151 = .ok (.iconst 0, 1) := by decide +kernel
theorem dX12_settles_152 : decode cX12_settles 152 = .ok (.istore_n 1, 1) := by decide +kernel
theorem dX12_settles_153 : decode cX12_settles 153 = .ok (.iload_n 1, 1) := by decide +kernel
theorem dX12_settles_154 : decode cX12_settles 154 = .ok (.aload_n 0, 1) := by decide +kernel
theorem dX12_settles_155 : decode cX12_settles 155 = .ok (.getfield 127, 3) := by decide +kernel
theorem dX12_settles_158 : decode cX12_settles 158 = .ok (.if_icmp .ge 25, 3) := by decide +kernel
theorem dX12_settles_161 : decode cX12_settles 161 = .ok (.aload_n 0, 1) := by decide +kernel
theorem dX12_settles_162 : decode cX12_settles 162 = .ok (.getfield 22, 3) := by decide +kernel
theorem dX12_settles_165 : decode cX12_settles 165 = .ok (.iconst 4, 1) := by decide +kernel
theorem dX12_settles_166 : decode cX12_settles 166 = .ok (.iload_n 1, 1) := by decide +kernel
theorem dX12_settles_167 : decode cX12_settles 167 = .ok (.iadd, 1) := by decide +kernel
theorem dX12_settles_168 : decode cX12_settles 168 = .ok (.aload_n 0, 1) := by decide +kernel
theorem dX12_settles_169 : decode cX12_settles 169 = .ok (.getfield 13, 3) := by decide +kernel
theorem dX12_settles_172 : decode cX12_settles 172 = .ok (.iconst 3, 1) := by decide +kernel
theorem dX12_settles_173 : decode cX12_settles 173 = .ok (.iload_n 1, 1) := by decide +kernel
theorem dX12_settles_174 : decode cX12_settles 174 = .ok (.imul, 1) := by decide +kernel
theorem dX12_settles_175 : decode cX12_settles 175 = .ok (.iaload, 1) := by decide +kernel
theorem dX12_settles_176 : decode cX12_settles 176 = .ok (.iastore, 1) := by decide +kernel
theorem dX12_settles_177 : decode cX12_settles 177 = .ok (.iinc 1 1, 3) := by decide +kernel
theorem dX12_settles_180 : decode cX12_settles 180 = .ok (.goto (-27), 3) := by decide +kernel
theorem dX12_settles_183 : decode cX12_settles 183 = .ok (.aload_n 0, 1) := by decide +kernel
theorem dX12_settles_184 : decode cX12_settles 184 = .ok (.iconst 0, 1) := by decide +kernel
theorem dX12_settles_185 : decode cX12_settles 185 = .ok (.putfield 68, 3) := by decide +kernel
theorem dX12_settles_188 : decode cX12_settles 188 = .ok (.aload_n 0, 1) := by decide +kernel
theorem dX12_settles_189 : decode cX12_settles 189 = .ok (.iconst 0, 1) := by decide +kernel
theorem dX12_settles_190 : decode cX12_settles 190 = .ok (.putfield 136, 3) := by decide +kernel
theorem dX12_settles_193 : decode cX12_settles 193 = .ok (.aload_n 0, 1) := by decide +kernel
theorem dX12_settles_194 : decode cX12_settles 194 = .ok (.iconst 0, 1) := by decide +kernel
theorem dX12_settles_195 : decode cX12_settles 195 = .ok (.putfield 139, 3) := by decide +kernel
theorem dX12_settles_198 : decode cX12_settles 198 = .ok (.aload_n 0, 1) := by decide +kernel
theorem dX12_settles_199 : decode cX12_settles 199 = .ok (.getfield 31, 3) := by decide +kernel
theorem dX12_settles_202 : decode cX12_settles 202 = .ok (.iconst 0, 1) := by decide +kernel
theorem dX12_settles_203 : decode cX12_settles 203 = .ok (.iconst 0, 1) := by decide +kernel
theorem dX12_settles_204 : decode cX12_settles 204 = .ok (.bastore, 1) := by decide +kernel
theorem dX12_settles_205 : decode cX12_settles 205 = .ok (.aload_n 0, 1) := by decide +kernel
theorem dX12_settles_206 : decode cX12_settles 206 = .ok (.getfield 31, 3) := by decide +kernel
theorem dX12_settles_209 : decode cX12_settles 209 = .ok (.iconst 1, 1) := by decide +kernel
theorem dX12_settles_210 : decode cX12_settles 210 = .ok (.iconst 0, 1) := by decide +kernel
theorem dX12_settles_211 : decode cX12_settles 211 = .ok (.bastore, 1) := by decide +kernel
theorem dX12_settles_212 : decode cX12_settles 212 = .ok (.return_, 1) := by decide +kernel
theorem dX12_isPhone_0 : decode cX12_isPhone 0 = .ok (.iload_n 1, 1) := by decide +kernel
theorem dX12_isPhone_1 : decode cX12_isPhone 1 = .ok (.iconst 0, 1) := by decide +kernel
theorem dX12_isPhone_2 : decode cX12_isPhone 2 = .ok (.aload_n 0, 1) := by decide +kernel
theorem dX12_isPhone_3 : decode cX12_isPhone 3 = .ok (.getfield 127, 3) := by decide +kernel
theorem dX12_isPhone_6 : decode cX12_isPhone 6 = .ok (.iconst 1, 1) := by decide +kernel
theorem dX12_isPhone_7 : decode cX12_isPhone 7 = .ok (.isub, 1) := by decide +kernel
theorem dX12_isPhone_8 : decode cX12_isPhone 8 = .ok (.invokestatic 64, 3) := by decide +kernel
theorem dX12_isPhone_11 : decode cX12_isPhone 11 = .ok (.ireturn, 1) := by decide +kernel
theorem dX12_phone_0 : decode cX12_phone 0 = .ok (.aload_n 0, 1) := by decide +kernel
theorem dX12_phone_1 : decode cX12_phone 1 = .ok (.iconst 0, 1) := by decide +kernel
theorem dX12_phone_2 : decode cX12_phone 2 = .ok (.putfield 61, 3) := by decide +kernel
theorem dX12_phone_5 : decode cX12_phone 5 = .ok (.aload_n 0, 1) := by decide +kernel
theorem dX12_phone_6 : decode cX12_phone 6 = .ok (.iload_n 1, 1) := by decide +kernel
theorem dX12_phone_7 : decode cX12_phone 7 = .ok (.invokevirtual 142, 3) := by decide +kernel
theorem dX12_phone_10 : decode cX12_phone 10 = .ok (.ifCond .eq 12, 3) := by decide +kernel
theorem dX12_phone_13 : decode cX12_phone 13 = .ok (.iload_n 2, 1) := by decide +kernel
theorem dX12_phone_14 : decode cX12_phone 14 = .ok (.iconst 0, 1) := by decide +kernel
theorem dX12_phone_15 : decode cX12_phone 15 = .ok (.iconst 4, 1) := by decide +kernel
theorem dX12_phone_16 : decode cX12_phone 16 = .ok (.invokestatic 64, 3) := by decide +kernel
theorem dX12_phone_19 : decode cX12_phone 19 = .ok (.ifCond .ne 5, 3) := by decide +kernel
theorem dX12_phone_22 : decode cX12_phone 22 = .ok (.iconst (-1), 1) := by decide +kernel
theorem dX12_phone_23 : decode cX12_phone 23 = .ok (.ireturn, 1) := by decide +kernel
theorem dX12_phone_24 : decode cX12_phone 24 = .ok (.iload_n 2, 1) := by decide +kernel
theorem dX12_phone_25 : decode cX12_phone 25 = .ok (.iconst 3, 1) := by decide +kernel
theorem dX12_phone_26 : decode cX12_phone 26 = .ok (.if_icmp .ge 29, 3) := by decide +kernel
theorem dX12_phone_29 : decode cX12_phone 29 = .ok (.iload_n 2, 1) := by decide +kernel
theorem dX12_phone_30 : decode cX12_phone 30 = .ok (.ifCond .ne 14, 3) := by decide +kernel
theorem dX12_phone_33 : decode cX12_phone 33 = .ok (.aload_n 0, 1) := by decide +kernel
theorem dX12_phone_34 : decode cX12_phone 34 = .ok (.getfield 22, 3) := by decide +kernel
theorem dX12_phone_37 : decode cX12_phone 37 = .ok (.iconst 4, 1) := by decide +kernel
theorem dX12_phone_38 : decode cX12_phone 38 = .ok (.iload_n 1, 1) := by decide +kernel
theorem dX12_phone_39 : decode cX12_phone 39 = .ok (.iadd, 1) := by decide +kernel
theorem dX12_phone_40 : decode cX12_phone 40 = .ok (.iaload, 1) := by decide +kernel
theorem dX12_phone_41 : decode cX12_phone 41 = .ok (.goto 13, 3) := by decide +kernel
theorem dX12_phone_44 : decode cX12_phone 44 = .ok (.aload_n 0, 1) := by decide +kernel
theorem dX12_phone_45 : decode cX12_phone 45 = .ok (.getfield 13, 3) := by decide +kernel
theorem dX12_phone_48 : decode cX12_phone 48 = .ok (.iconst 3, 1) := by decide +kernel
theorem dX12_phone_49 : decode cX12_phone 49 = .ok (.iload_n 1, 1) := by decide +kernel
theorem dX12_phone_50 : decode cX12_phone 50 = .ok (.imul, 1) := by decide +kernel
theorem dX12_phone_51 : decode cX12_phone 51 = .ok (.iload_n 2, 1) := by decide +kernel
theorem dX12_phone_52 : decode cX12_phone 52 = .ok (.iadd, 1) := by decide +kernel
theorem dX12_phone_53 : decode cX12_phone 53 = .ok (.iaload, 1) := by decide +kernel
theorem dX12_phone_54 : decode cX12_phone 54 = .ok (.ireturn, 1) := by decide +kernel
theorem dX12_phone_55 : decode cX12_phone 55 = .ok (.iload_n 2, 1) := by decide +kernel
theorem dX12_phone_56 : decode cX12_phone 56 = .ok (.iconst 3, 1) := by decide +kernel
theorem dX12_phone_57 : decode cX12_phone 57 = .ok (.if_icmp .ne 15, 3) := by decide +kernel
theorem dX12_phone_60 : decode cX12_phone 60 = .ok (.aload_n 0, 1) := by decide +kernel
theorem dX12_phone_61 : decode cX12_phone 61 = .ok (.getfield 22, 3) := by decide +kernel
theorem dX12_phone_64 : decode cX12_phone 64 = .ok (.bipush 9, 2) := by decide +kernel
theorem dX12_phone_66 : decode cX12_phone 66 = .ok (.iload_n 1, 1) := by decide +kernel
theorem dX12_phone_67 : decode cX12_phone 67 = .ok (.iadd, 1) := by decide +kernel
theorem dX12_phone_68 : decode cX12_phone 68 = .ok (.iaload, 1) := by decide +kernel
theorem dX12_phone_69 : decode cX12_phone 69 = .ok (.goto 13, 3) := by decide +kernel
theorem dX12_phone_72 : decode cX12_phone 72 = .ok (.aload_n 0, 1) := by decide +kernel
theorem dX12_phone_73 : decode cX12_phone 73 = .ok (.getfield 22, 3) := by decide +kernel
theorem dX12_phone_76 : decode cX12_phone 76 = .ok (.iconst 1, 1) := by decide +kernel
theorem dX12_phone_77 : decode cX12_phone 77 = .ok (.iaload, 1) := by decide +kernel
theorem dX12_phone_78 : decode cX12_phone 78 = .ok (.iload_n 1, 1) := by decide +kernel
theorem dX12_phone_79 : decode cX12_phone 79 = .ok (.ishr, 1) := by decide +kernel
theorem dX12_phone_80 : decode cX12_phone 80 = .ok (.iconst 1, 1) := by decide +kernel
theorem dX12_phone_81 : decode cX12_phone 81 = .ok (.iand, 1) := by decide +kernel
theorem dX12_phone_82 : decode cX12_phone 82 = .ok (.ireturn, 1) := by decide +kernel
theorem dX12_call_0 : decode cX12_call 0 = .ok (.aload_n 0, 1) := by decide +kernel
theorem dX12_call_1 : decode cX12_call 1 = .ok (.iconst 0, 1) := by decide +kernel
theorem dX12_call_2 : decode cX12_call 2 = .ok (.putfield 61, 3) := by decide +kernel
theorem dX12_call_5 : decode cX12_call 5 = .ok (.iload_n 1, 1) := by decide +kernel
theorem dX12_call_6 : decode cX12_call 6 = .ok (.iconst 0, 1) := by decide +kernel
theorem dX12_call_7 : decode cX12_call 7 = .ok (.aload_n 0, 1) := by decide +kernel
theorem dX12_call_8 : decode cX12_call 8 = .ok (.getfield 130, 3) := by decide +kernel
theorem dX12_call_11 : decode cX12_call 11 = .ok (.iconst 1, 1) := by decide +kernel
theorem dX12_call_12 : decode cX12_call 12 = .ok (.isub, 1) := by decide +kernel
theorem dX12_call_13 : decode cX12_call 13 = .ok (.invokestatic 64, 3) := by decide +kernel
theorem dX12_call_16 : decode cX12_call 16 = .ok (.ifCond .eq 25, 3) := by decide +kernel
theorem dX12_call_19 : decode cX12_call 19 = .ok (.iload_n 2, 1) := by decide +kernel
theorem dX12_call_20 : decode cX12_call 20 = .ok (.iconst 0, 1) := by decide +kernel
theorem dX12_call_21 : decode cX12_call 21 = .ok (.iconst 2, 1) := by decide +kernel
theorem dX12_call_22 : decode cX12_call 22 = .ok (.invokestatic 64, 3) := by decide +kernel
theorem dX12_call_25 : decode cX12_call 25 = .ok (.ifCond .eq 16, 3) := by decide +kernel
theorem dX12_call_28 : decode cX12_call 28 = .ok (.aload_n 0, 1) := by decide +kernel
theorem dX12_call_29 : decode cX12_call 29 = .ok (.getfield 16, 3) := by decide +kernel
theorem dX12_call_32 : decode cX12_call 32 = .ok (.iconst 3, 1) := by decide +kernel
theorem dX12_call_33 : decode cX12_call 33 = .ok (.iload_n 1, 1) := by decide +kernel
theorem dX12_call_34 : decode cX12_call 34 = .ok (.imul, 1) := by decide +kernel
theorem dX12_call_35 : decode cX12_call 35 = .ok (.iload_n 2, 1) := by decide +kernel
theorem dX12_call_36 : decode cX12_call 36 = .ok (.iadd, 1) := by decide +kernel
theorem dX12_call_37 : decode cX12_call 37 = .ok (.iaload, 1) := by decide +kernel
theorem dX12_call_38 : decode cX12_call 38 = .ok (.goto 4, 3) := by decide +kernel
theorem dX12_call_41 : decode cX12_call 41 = .ok (.iconst (-1), 1) := by decide +kernel
theorem dX12_call_42 : decode cX12_call 42 = .ok (.ireturn, 1) := by decide +kernel
theorem dX12_isDark_0 : decode cX12_isDark 0 = .ok (.iconst 0, 1) := by decide +kernel
theorem dX12_isDark_1 : decode cX12_isDark 1 = .ok (.istore_n 2, 1) := by decide +kernel
theorem dX12_isDark_2 : decode cX12_isDark 2 = .ok (.iconst 0, 1) := by decide +kernel
theorem dX12_isDark_3 : decode cX12_isDark 3 = .ok (.istore_n 3, 1) := by decide +kernel
theorem dX12_isDark_4 : decode cX12_isDark 4 = .ok (.iload_n 3, 1) := by decide +kernel
theorem dX12_isDark_5 : decode cX12_isDark 5 = .ok (.aload_n 0, 1) := by decide +kernel
theorem dX12_isDark_6 : decode cX12_isDark 6 = .ok (.getfield 133, 3) := by decide +kernel
theorem dX12_isDark_9 : decode cX12_isDark 9 = .ok (.if_icmp .ge 44, 3) := by decide +kernel
theorem dX12_isDark_12 : decode cX12_isDark 12 = .ok (.iload_n 2, 1) := by decide +kernel
theorem dX12_isDark_13 : decode cX12_isDark 13 = .ok (.ifCond .ne 28, 3) := by decide +kernel
theorem dX12_isDark_16 : decode cX12_isDark 16 = .ok (.iload_n 1, 1) := by decide +kernel
theorem dX12_isDark_17 : decode cX12_isDark 17 = .ok (.aload_n 0, 1) := by decide +kernel
theorem dX12_isDark_18 : decode cX12_isDark 18 = .ok (.getfield 19, 3) := by decide +kernel
theorem dX12_isDark_21 : decode cX12_isDark 21 = .ok (.iconst 2, 1) := by decide +kernel
theorem dX12_isDark_22 : decode cX12_isDark 22 = .ok (.iload_n 3, 1) := by decide +kernel
theorem dX12_isDark_23 : decode cX12_isDark 23 = .ok (.imul, 1) := by decide +kernel
theorem dX12_isDark_24 : decode cX12_isDark 24 = .ok (.iaload, 1) := by decide +kernel
theorem dX12_isDark_25 : decode cX12_isDark 25 = .ok (.aload_n 0, 1) := by decide +kernel
theorem dX12_isDark_26 : decode cX12_isDark 26 = .ok (.getfield 19, 3) := by decide +kernel
theorem dX12_isDark_29 : decode cX12_isDark 29 = .ok (.iconst 2, 1) := by decide +kernel
theorem dX12_isDark_30 : decode cX12_isDark 30 = .ok (.iload_n 3, 1) := by decide +kernel
theorem dX12_isDark_31 : decode cX12_isDark 31 = .ok (.imul, 1) := by decide +kernel
theorem dX12_isDark_32 : decode cX12_isDark 32 = .ok (.iconst 1, 1) := by decide +kernel
theorem dX12_isDark_33 : decode cX12_isDark 33 = .ok (.iadd, 1) := by decide +kernel
theorem dX12_isDark_34 : decode cX12_isDark 34 = .ok (.iaload, 1) := by decide +kernel
theorem dX12_isDark_35 : decode cX12_isDark 35 = .ok (.invokestatic 64, 3) := by decide +kernel
theorem dX12_isDark_38 : decode cX12_isDark 38 = .ok (.ifCond .eq 7, 3) := by decide +kernel
theorem dX12_isDark_41 : decode cX12_isDark 41 = .ok (.iconst 1, 1) := by decide +kernel
theorem dX12_isDark_42 : decode cX12_isDark 42 = .ok (.goto 4, 3) := by decide +kernel
theorem dX12_isDark_45 : decode cX12_isDark 45 = .ok (.iconst 0, 1) := by decide +kernel
theorem dX12_isDark_46 : decode cX12_isDark 46 = .ok (.istore_n 2, 1) := by decide +kernel
theorem dX12_isDark_47 : decode cX12_isDark 47 = .ok (.iinc 3 1, 3) := by decide +kernel
theorem dX12_isDark_50 : decode cX12_isDark 50 = .ok (.goto (-46), 3) := by decide +kernel
theorem dX12_isDark_53 : decode cX12_isDark 53 = .ok (.iload_n 2, 1) := by decide +kernel
theorem dX12_isDark_54 : decode cX12_isDark 54 = .ok (.ireturn, 1) := by decide +kernel
theorem dX12_dark_0 : decode cX12_dark 0 = .ok (.aload_n 0, 1) := by decide +kernel
theorem dX12_dark_1 : decode cX12_dark 1 = .ok (.iconst 0, 1) := by decide +kernel
theorem dX12_dark_2 : decode cX12_dark 2 = .ok (.putfield 61, 3) := by decide +kernel
theorem dX12_dark_5 : decode cX12_dark 5 = .ok (.iload_n 1, 1) := by decide +kernel
theorem dX12_dark_6 : decode cX12_dark 6 = .ok (.iconst 0, 1) := by decide +kernel
theorem dX12_dark_7 : decode cX12_dark 7 = .ok (.sipush 160, 3) := by decide +kernel
theorem dX12_dark_10 : decode cX12_dark 10 = .ok (.invokestatic 64, 3) := by decide +kernel
theorem dX12_dark_13 : decode cX12_dark 13 = .ok (.ifCond .ne 7, 3) := by decide +kernel
theorem dX12_dark_16 : decode cX12_dark 16 = .ok (.iconst (-1), 1) := by decide +kernel
theorem dX12_dark_17 : decode cX12_dark 17 = .ok (.goto 16, 3) := by decide +kernel
theorem dX12_dark_20 : decode cX12_dark 20 = .ok (.aload_n 0, 1) := by decide +kernel
theorem dX12_dark_21 : decode cX12_dark 21 = .ok (.iload_n 1, 1) := by decide +kernel
theorem dX12_dark_22 : decode cX12_dark 22 = .ok (.invokevirtual 146, 3) := by decide +kernel
theorem dX12_dark_25 : decode cX12_dark 25 = .ok (.ifCond .eq 7, 3) := by decide +kernel
theorem dX12_dark_28 : decode cX12_dark 28 = .ok (.iconst 1, 1) := by decide +kernel
theorem dX12_dark_29 : decode cX12_dark 29 = .ok (.goto 4, 3) := by decide +kernel
theorem dX12_dark_32 : decode cX12_dark 32 = .ok (.iconst 0, 1) := by decide +kernel
theorem dX12_dark_33 : decode cX12_dark 33 = .ok (.ireturn, 1) := by decide +kernel
theorem dX12_filled_0 : decode cX12_filled 0 = .ok (.iload_n 1, 1) := by decide +kernel
theorem dX12_filled_1 : decode cX12_filled 1 = .ok (.iconst 2, 1) := by decide +kernel
theorem dX12_filled_2 : decode cX12_filled 2 = .ok (.idiv, 1) := by decide +kernel
theorem dX12_filled_3 : decode cX12_filled 3 = .ok (.iconst 1, 1) := by decide +kernel
theorem dX12_filled_4 : decode cX12_filled 4 = .ok (.if_icmp .ge 7, 3) := by decide +kernel
theorem dX12_filled_7 : decode cX12_filled 7 = .ok (.iconst 1, 1) := by decide +kernel
theorem dX12_filled_8 : decode cX12_filled 8 = .ok (.goto 6, 3) := by decide +kernel
theorem dX12_filled_11 : decode cX12_filled 11 = .ok (.iload_n 1, 1) := by decide +kernel
theorem dX12_filled_12 : decode cX12_filled 12 = .ok (.iconst 2, 1) := by decide +kernel
theorem dX12_filled_13 : decode cX12_filled 13 = .ok (.idiv, 1) := by decide +kernel
theorem dX12_filled_14 : decode cX12_filled 14 = .ok (.istore_n 2, 1) := by decide +kernel
theorem dX12_filled_15 : decode cX12_filled 15 = .ok (.iload_n 0, 1) := by decide +kernel
theorem dX12_filled_16 : decode cX12_filled 16 = .ok (.iload_n 0, 1) := by decide +kernel
theorem dX12_filled_17 : decode cX12_filled 17 = .ok (.bipush 80, 2) := by decide +kernel
theorem dX12_filled_19 : decode cX12_filled 19 = .ok (.if_icmp .ge 7, 3) := by decide +kernel
theorem dX12_filled_22 : decode cX12_filled 22 = .ok (.iload_n 1, 1) := by decide +kernel
theorem dX12_filled_23 : decode cX12_filled 23 = .ok (.goto 4, 3) := by decide +kernel
theorem dX12_filled_26 : decode cX12_filled 26 = .ok (.iload_n 2, 1) := by decide +kernel
theorem dX12_filled_27 : decode cX12_filled 27 = .ok (.iadd, 1) := by decide +kernel
theorem dX12_filled_28 : decode cX12_filled 28 = .ok (.istore_n 3, 1) := by decide +kernel
theorem dX12_filled_29 : decode cX12_filled 29 = .ok (.iload_n 3, 1) := by decide +kernel
theorem dX12_filled_30 : decode cX12_filled 30 = .ok (.bipush 100, 2) := by decide +kernel
theorem dX12_filled_32 : decode cX12_filled 32 = .ok (.if_icmp .le 8, 3) := by decide +kernel
theorem dX12_filled_35 : decode cX12_filled 35 = .ok (.bipush 100, 2) := by decide +kernel
theorem dX12_filled_37 : decode cX12_filled 37 = .ok (.goto 4, 3) := by decide +kernel
theorem dX12_filled_40 : decode cX12_filled 40 = .ok (.iload_n 3, 1) := by decide +kernel
theorem dX12_filled_41 : decode cX12_filled 41 = .ok (.ireturn, 1) := by decide +kernel
theorem dX12_lower_0 : decode cX12_lower 0 = .ok (.iload_n 0, 1) := by decide +kernel
theorem dX12_lower_1 : decode cX12_lower 1 = .ok (.iload_n 1, 1) := by decide +kernel
theorem dX12_lower_2 : decode cX12_lower 2 = .ok (.if_icmp .ge 7, 3) := by decide +kernel
theorem dX12_lower_5 : decode cX12_lower 5 = .ok (.iconst 0, 1) := by decide +kernel
theorem dX12_lower_6 : decode cX12_lower 6 = .ok (.goto 6, 3) := by decide +kernel
theorem dX12_lower_9 : decode cX12_lower 9 = .ok (.iload_n 0, 1) := by decide +kernel
theorem dX12_lower_10 : decode cX12_lower 10 = .ok (.iload_n 1, 1) := by decide +kernel
theorem dX12_lower_11 : decode cX12_lower 11 = .ok (.isub, 1) := by decide +kernel
theorem dX12_lower_12 : decode cX12_lower 12 = .ok (.ireturn, 1) := by decide +kernel
theorem dX12_goes_0 : decode cX12_goes 0 = .ok (.iconst 0, 1) := by decide +kernel
theorem dX12_goes_1 : decode cX12_goes 1 = .ok (.istore_n 2, 1) := by decide +kernel
theorem dX12_goes_2 : decode cX12_goes 2 = .ok (.iload_n 2, 1) := by decide +kernel
theorem dX12_goes_3 : decode cX12_goes 3 = .ok (.aload_n 0, 1) := by decide +kernel
theorem dX12_goes_4 : decode cX12_goes 4 = .ok (.getfield 130, 3) := by decide +kernel
theorem dX12_goes_7 : decode cX12_goes 7 = .ok (.if_icmp .ge 100, 3) := by decide +kernel
theorem dX12_goes_10 : decode cX12_goes 10 = .ok (.iconst 4, 1) := by decide +kernel
theorem dX12_goes_11 : decode cX12_goes 11 = .ok (.aload_n 0, 1) := by decide +kernel
theorem dX12_goes_12 : decode cX12_goes 12 = .ok (.getfield 16, 3) := by decide +kernel
theorem dX12_goes_15 : decode cX12_goes 15 = .ok (.iconst 3, 1) := by decide +kernel
theorem dX12_goes_16 : decode cX12_goes 16 = .ok (.iload_n 2, 1) := by decide +kernel
theorem dX12_goes_17 : decode cX12_goes 17 = .ok (.imul, 1) := by decide +kernel
theorem dX12_goes_18 : decode cX12_goes 18 = .ok (.iaload, 1) := by decide +kernel
theorem dX12_goes_19 : decode cX12_goes 19 = .ok (.iadd, 1) := by decide +kernel
theorem dX12_goes_20 : decode cX12_goes 20 = .ok (.istore_n 3, 1) := by decide +kernel
theorem dX12_goes_21 : decode cX12_goes 21 = .ok (.aload_n 0, 1) := by decide +kernel
theorem dX12_goes_22 : decode cX12_goes 22 = .ok (.getfield 16, 3) := by decide +kernel
theorem dX12_goes_25 : decode cX12_goes 25 = .ok (.iconst 3, 1) := by decide +kernel
theorem dX12_goes_26 : decode cX12_goes 26 = .ok (.iload_n 2, 1) := by decide +kernel
theorem dX12_goes_27 : decode cX12_goes 27 = .ok (.imul, 1) := by decide +kernel
theorem dX12_goes_28 : decode cX12_goes 28 = .ok (.iconst 1, 1) := by decide +kernel
theorem dX12_goes_29 : decode cX12_goes 29 = .ok (.iadd, 1) := by decide +kernel
theorem dX12_goes_30 : decode cX12_goes 30 = .ok (.iaload, 1) := by decide +kernel
theorem dX12_goes_31 : decode cX12_goes 31 = .ok (.aload_n 1, 1) := by decide +kernel
theorem dX12_goes_32 : decode cX12_goes 32 = .ok (.iconst 0, 1) := by decide +kernel
theorem dX12_goes_33 : decode cX12_goes 33 = .ok (.iaload, 1) := by decide +kernel
theorem dX12_goes_34 : decode cX12_goes 34 = .ok (.if_icmp .ne 67, 3) := by decide +kernel
theorem dX12_goes_37 : decode cX12_goes 37 = .ok (.aload_n 1, 1) := by decide +kernel
theorem dX12_goes_38 : decode cX12_goes 38 = .ok (.iload_n 3, 1) := by decide +kernel
theorem dX12_goes_39 : decode cX12_goes 39 = .ok (.iaload, 1) := by decide +kernel
theorem dX12_goes_40 : decode cX12_goes 40 = .ok (.aload_n 0, 1) := by decide +kernel
theorem dX12_goes_41 : decode cX12_goes 41 = .ok (.getfield 16, 3) := by decide +kernel
theorem dX12_goes_44 : decode cX12_goes 44 = .ok (.iconst 3, 1) := by decide +kernel
theorem dX12_goes_45 : decode cX12_goes 45 = .ok (.iload_n 2, 1) := by decide +kernel
theorem dX12_goes_46 : decode cX12_goes 46 = .ok (.imul, 1) := by decide +kernel
theorem dX12_goes_47 : decode cX12_goes 47 = .ok (.iconst 2, 1) := by decide +kernel
theorem dX12_goes_48 : decode cX12_goes 48 = .ok (.iadd, 1) := by decide +kernel
theorem dX12_goes_49 : decode cX12_goes 49 = .ok (.iaload, 1) := by decide +kernel
theorem dX12_goes_50 : decode cX12_goes 50 = .ok (.if_icmp .lt 7, 3) := by decide +kernel
theorem dX12_goes_53 : decode cX12_goes 53 = .ok (.iconst 1, 1) := by decide +kernel
theorem dX12_goes_54 : decode cX12_goes 54 = .ok (.goto 4, 3) := by decide +kernel
theorem dX12_goes_57 : decode cX12_goes 57 = .ok (.iconst 0, 1) := by decide +kernel
theorem dX12_goes_58 : decode cX12_goes 58 = .ok (.istore 4, 2) := by decide +kernel
theorem dX12_goes_60 : decode cX12_goes 60 = .ok (.aload_n 1, 1) := by decide +kernel
theorem dX12_goes_61 : decode cX12_goes 61 = .ok (.iload_n 3, 1) := by decide +kernel
theorem dX12_goes_62 : decode cX12_goes 62 = .ok (.dup2, 1) := by decide +kernel
theorem dX12_goes_63 : decode cX12_goes 63 = .ok (.iaload, 1) := by decide +kernel
theorem dX12_goes_64 : decode cX12_goes 64 = .ok (.iload 4, 2) := by decide +kernel
theorem dX12_goes_66 : decode cX12_goes 66 = .ok (.ifCond .eq 16, 3) := by decide +kernel
theorem dX12_goes_69 : decode cX12_goes 69 = .ok (.aload_n 0, 1) := by decide +kernel
theorem dX12_goes_70 : decode cX12_goes 70 = .ok (.getfield 16, 3) := by decide +kernel
theorem dX12_goes_73 : decode cX12_goes 73 = .ok (.iconst 3, 1) := by decide +kernel
theorem dX12_goes_74 : decode cX12_goes 74 = .ok (.iload_n 2, 1) := by decide +kernel
theorem dX12_goes_75 : decode cX12_goes 75 = .ok (.imul, 1) := by decide +kernel
theorem dX12_goes_76 : decode cX12_goes 76 = .ok (.iconst 2, 1) := by decide +kernel
theorem dX12_goes_77 : decode cX12_goes 77 = .ok (.iadd, 1) := by decide +kernel
theorem dX12_goes_78 : decode cX12_goes 78 = .ok (.iaload, 1) := by decide +kernel
theorem dX12_goes_79 : decode cX12_goes 79 = .ok (.goto 4, 3) := by decide +kernel
theorem dX12_goes_82 : decode cX12_goes 82 = .ok (.iconst 0, 1) := by decide +kernel
theorem dX12_goes_83 : decode cX12_goes 83 = .ok (.isub, 1) := by decide +kernel
theorem dX12_goes_84 : decode cX12_goes 84 = .ok (.iastore, 1) := by decide +kernel
theorem dX12_goes_85 : decode cX12_goes 85 = .ok (.aload_n 1, 1) := by decide +kernel
theorem dX12_goes_86 : decode cX12_goes 86 = .ok (.iconst 3, 1) := by decide +kernel
theorem dX12_goes_87 : decode cX12_goes 87 = .ok (.dup2, 1) := by decide +kernel
theorem dX12_goes_88 : decode cX12_goes 88 = .ok (.iaload, 1) := by decide +kernel
theorem dX12_goes_89 : decode cX12_goes 89 = .ok (.iload 4, 2) := by decide +kernel
theorem dX12_goes_91 : decode cX12_goes 91 = .ok (.ifCond .eq 7, 3) := by decide +kernel
theorem dX12_goes_94 : decode cX12_goes 94 = .ok (.iconst 0, 1) := by decide +kernel
theorem dX12_goes_95 : decode cX12_goes 95 = .ok (.goto 4, 3) := by decide +kernel
theorem dX12_goes_98 : decode cX12_goes 98 = .ok (.iconst 1, 1) := by decide +kernel
theorem dX12_goes_99 : decode cX12_goes 99 = .ok (.iadd, 1) := by decide +kernel
theorem dX12_goes_100 : decode cX12_goes 100 = .ok (.iastore, 1) := by decide +kernel
theorem dX12_goes_101 : decode cX12_goes 101 = .ok (.iinc 2 1, 3) := by decide +kernel
theorem dX12_goes_104 : decode cX12_goes 104 = .ok (.goto (-102), 3) := by decide +kernel
theorem dX12_goes_107 : decode cX12_goes 107 = .ok (.aload_n 0, 1) := by decide +kernel
theorem dX12_goes_108 : decode cX12_goes 108 = .ok (.aload_n 1, 1) := by decide +kernel
theorem dX12_goes_109 : decode cX12_goes 109 = .ok (.iconst 0, 1) := by decide +kernel
theorem dX12_goes_110 : decode cX12_goes 110 = .ok (.iaload, 1) := by decide +kernel
theorem dX12_goes_111 : decode cX12_goes 111 = .ok (.invokevirtual 146, 3) := by decide +kernel
theorem dX12_goes_114 : decode cX12_goes 114 = .ok (.istore_n 2, 1) := by decide +kernel
theorem dX12_goes_115 : decode cX12_goes 115 = .ok (.iconst 0, 1) := by decide +kernel
theorem dX12_goes_116 : decode cX12_goes 116 = .ok (.istore_n 3, 1) := by decide +kernel
theorem dX12_goes_117 : decode cX12_goes 117 = .ok (.iload_n 3, 1) := by decide +kernel
theorem dX12_goes_118 : decode cX12_goes 118 = .ok (.aload_n 0, 1) := by decide +kernel
theorem dX12_goes_119 : decode cX12_goes 119 = .ok (.getfield 127, 3) := by decide +kernel
theorem dX12_goes_122 : decode cX12_goes 122 = .ok (.if_icmp .ge 99, 3) := by decide +kernel
theorem dX12_goes_125 : decode cX12_goes 125 = .ok (.iload_n 2, 1) := by decide +kernel
theorem dX12_goes_126 : decode cX12_goes 126 = .ok (.ifCond .ne 18, 3) := by decide +kernel
theorem dX12_goes_129 : decode cX12_goes 129 = .ok (.aload_n 1, 1) := by decide +kernel
theorem dX12_goes_130 : decode cX12_goes 130 = .ok (.iconst 1, 1) := by decide +kernel
theorem dX12_goes_131 : decode cX12_goes 131 = .ok (.iaload, 1) := by decide +kernel
theorem dX12_goes_132 : decode cX12_goes 132 = .ok (.iload_n 3, 1) := by decide +kernel
theorem dX12_goes_133 : decode cX12_goes 133 = .ok (.ishr, 1) := by decide +kernel
theorem dX12_goes_134 : decode cX12_goes 134 = .ok (.iconst 1, 1) := by decide +kernel
theorem dX12_goes_135 : decode cX12_goes 135 = .ok (.iand, 1) := by decide +kernel
theorem dX12_goes_136 : decode cX12_goes 136 = .ok (.iconst 1, 1) := by decide +kernel
theorem dX12_goes_137 : decode cX12_goes 137 = .ok (.if_icmp .ne 7, 3) := by decide +kernel
theorem dX12_goes_140 : decode cX12_goes 140 = .ok (.iconst 1, 1) := by decide +kernel
theorem dX12_goes_141 : decode cX12_goes 141 = .ok (.goto 4, 3) := by decide +kernel
theorem dX12_goes_144 : decode cX12_goes 144 = .ok (.iconst 0, 1) := by decide +kernel
theorem dX12_goes_145 : decode cX12_goes 145 = .ok (.istore 4, 2) := by decide +kernel
theorem dX12_goes_147 : decode cX12_goes 147 = .ok (.aload_n 1, 1) := by decide +kernel
theorem dX12_goes_148 : decode cX12_goes 148 = .ok (.iconst 4, 1) := by decide +kernel
theorem dX12_goes_149 : decode cX12_goes 149 = .ok (.iload_n 3, 1) := by decide +kernel
theorem dX12_goes_150 : decode cX12_goes 150 = .ok (.iadd, 1) := by decide +kernel
theorem dX12_goes_151 : decode cX12_goes 151 = .ok (.iload 4, 2) := by decide +kernel
theorem dX12_goes_153 : decode cX12_goes 153 = .ok (.ifCond .eq 24, 3) := by decide +kernel
theorem dX12_goes_156 : decode cX12_goes 156 = .ok (.aload_n 1, 1) := by decide +kernel
theorem dX12_goes_157 : decode cX12_goes 157 = .ok (.iconst 4, 1) := by decide +kernel
theorem dX12_goes_158 : decode cX12_goes 158 = .ok (.iload_n 3, 1) := by decide +kernel
theorem dX12_goes_159 : decode cX12_goes 159 = .ok (.iadd, 1) := by decide +kernel
theorem dX12_goes_160 : decode cX12_goes 160 = .ok (.iaload, 1) := by decide +kernel
theorem dX12_goes_161 : decode cX12_goes 161 = .ok (.aload_n 0, 1) := by decide +kernel
theorem dX12_goes_162 : decode cX12_goes 162 = .ok (.getfield 13, 3) := by decide +kernel
theorem dX12_goes_165 : decode cX12_goes 165 = .ok (.iconst 3, 1) := by decide +kernel
theorem dX12_goes_166 : decode cX12_goes 166 = .ok (.iload_n 3, 1) := by decide +kernel
theorem dX12_goes_167 : decode cX12_goes 167 = .ok (.imul, 1) := by decide +kernel
theorem dX12_goes_168 : decode cX12_goes 168 = .ok (.iconst 1, 1) := by decide +kernel
theorem dX12_goes_169 : decode cX12_goes 169 = .ok (.iadd, 1) := by decide +kernel
theorem dX12_goes_170 : decode cX12_goes 170 = .ok (.iaload, 1) := by decide +kernel
theorem dX12_goes_171 : decode cX12_goes 171 = .ok (.invokestatic 149, 3) := by decide +kernel
theorem dX12_goes_174 : decode cX12_goes 174 = .ok (.goto 21, 3) := by decide +kernel
theorem dX12_goes_177 : decode cX12_goes 177 = .ok (.aload_n 1, 1) := by decide +kernel
theorem dX12_goes_178 : decode cX12_goes 178 = .ok (.iconst 4, 1) := by decide +kernel
theorem dX12_goes_179 : decode cX12_goes 179 = .ok (.iload_n 3, 1) := by decide +kernel
theorem dX12_goes_180 : decode cX12_goes 180 = .ok (.iadd, 1) := by decide +kernel
theorem dX12_goes_181 : decode cX12_goes 181 = .ok (.iaload, 1) := by decide +kernel
theorem dX12_goes_182 : decode cX12_goes 182 = .ok (.aload_n 0, 1) := by decide +kernel
theorem dX12_goes_183 : decode cX12_goes 183 = .ok (.getfield 13, 3) := by decide +kernel
theorem dX12_goes_186 : decode cX12_goes 186 = .ok (.iconst 3, 1) := by decide +kernel
theorem dX12_goes_187 : decode cX12_goes 187 = .ok (.iload_n 3, 1) := by decide +kernel
theorem dX12_goes_188 : decode cX12_goes 188 = .ok (.imul, 1) := by decide +kernel
theorem dX12_goes_189 : decode cX12_goes 189 = .ok (.iconst 2, 1) := by decide +kernel
theorem dX12_goes_190 : decode cX12_goes 190 = .ok (.iadd, 1) := by decide +kernel
theorem dX12_goes_191 : decode cX12_goes 191 = .ok (.iaload, 1) := by decide +kernel
theorem dX12_goes_192 : decode cX12_goes 192 = .ok (.invokestatic 152, 3) := by decide +kernel
theorem dX12_goes_195 : decode cX12_goes 195 = .ok (.iastore, 1) := by decide +kernel
theorem dX12_goes_196 : decode cX12_goes 196 = .ok (.aload_n 1, 1) := by decide +kernel
theorem dX12_goes_197 : decode cX12_goes 197 = .ok (.bipush 9, 2) := by decide +kernel
theorem dX12_goes_199 : decode cX12_goes 199 = .ok (.iload_n 3, 1) := by decide +kernel
theorem dX12_goes_200 : decode cX12_goes 200 = .ok (.iadd, 1) := by decide +kernel
theorem dX12_goes_201 : decode cX12_goes 201 = .ok (.dup2, 1) := by decide +kernel
theorem dX12_goes_202 : decode cX12_goes 202 = .ok (.iaload, 1) := by decide +kernel
theorem dX12_goes_203 : decode cX12_goes 203 = .ok (.iload 4, 2) := by decide +kernel
theorem dX12_goes_205 : decode cX12_goes 205 = .ok (.ifCond .eq 7, 3) := by decide +kernel
theorem dX12_goes_208 : decode cX12_goes 208 = .ok (.iconst 1, 1) := by decide +kernel
theorem dX12_goes_209 : decode cX12_goes 209 = .ok (.goto 4, 3) := by decide +kernel
theorem dX12_goes_212 : decode cX12_goes 212 = .ok (.iconst 0, 1) := by decide +kernel
theorem dX12_goes_213 : decode cX12_goes 213 = .ok (.iadd, 1) := by decide +kernel
theorem dX12_goes_214 : decode cX12_goes 214 = .ok (.iastore, 1) := by decide +kernel
theorem dX12_goes_215 : decode cX12_goes 215 = .ok (.iinc 3 1, 3) := by decide +kernel
theorem dX12_goes_218 : decode cX12_goes 218 = .ok (.goto (-101), 3) := by decide +kernel
theorem dX12_goes_221 : decode cX12_goes 221 = .ok (.aload_n 1, 1) := by decide +kernel
theorem dX12_goes_222 : decode cX12_goes 222 = .ok (.iconst 0, 1) := by decide +kernel
theorem dX12_goes_223 : decode cX12_goes 223 = .ok (.dup2, 1) := by decide +kernel
theorem dX12_goes_224 : decode cX12_goes 224 = .ok (.iaload, 1) := by decide +kernel
theorem dX12_goes_225 : decode cX12_goes 225 = .ok (.iconst 1, 1) := by decide +kernel
theorem dX12_goes_226 : decode cX12_goes 226 = .ok (.iadd, 1) := by decide +kernel
theorem dX12_goes_227 : decode cX12_goes 227 = .ok (.iastore, 1) := by decide +kernel
theorem dX12_goes_228 : decode cX12_goes 228 = .ok (.return_, 1) := by decide +kernel
theorem dX12_notes_0 : decode cX12_notes 0 = .ok (.aload_n 0, 1) := by decide +kernel
theorem dX12_notes_1 : decode cX12_notes 1 = .ok (.getfield 136, 3) := by decide +kernel
theorem dX12_notes_4 : decode cX12_notes 4 = .ok (.bipush 10, 2) := by decide +kernel
theorem dX12_notes_6 : decode cX12_notes 6 = .ok (.if_icmp .ne 38, 3) := by decide +kernel
theorem dX12_notes_9 : decode cX12_notes 9 = .ok (.iconst 0, 1) := by decide +kernel
theorem dX12_notes_10 : decode cX12_notes 10 = .ok (.istore_n 1, 1) := by decide +kernel
theorem dX12_notes_11 : decode cX12_notes 11 = .ok (.iload_n 1, 1) := by decide +kernel
theorem dX12_notes_12 : decode cX12_notes 12 = .ok (.bipush 126, 2) := by decide +kernel
theorem dX12_notes_14 : decode cX12_notes 14 = .ok (.if_icmp .ge 24, 3) := by decide +kernel
theorem dX12_notes_17 : decode cX12_notes 17 = .ok (.aload_n 0, 1) := by decide +kernel
theorem dX12_notes_18 : decode cX12_notes 18 = .ok (.getfield 35, 3) := by decide +kernel
theorem dX12_notes_21 : decode cX12_notes 21 = .ok (.iload_n 1, 1) := by decide +kernel
theorem dX12_notes_22 : decode cX12_notes 22 = .ok (.aload_n 0, 1) := by decide +kernel
theorem dX12_notes_23 : decode cX12_notes 23 = .ok (.getfield 35, 3) := by decide +kernel
theorem dX12_notes_26 : decode cX12_notes 26 = .ok (.iload_n 1, 1) := by decide +kernel
theorem dX12_notes_27 : decode cX12_notes 27 = .ok (.bipush 14, 2) := by decide +kernel
theorem dX12_notes_29 : decode cX12_notes 29 = .ok (.iadd, 1) := by decide +kernel
theorem dX12_notes_30 : decode cX12_notes 30 = .ok (.iaload, 1) := by decide +kernel
theorem dX12_notes_31 : decode cX12_notes 31 = .ok (.iastore, 1) := by decide +kernel
theorem dX12_notes_32 : decode cX12_notes 32 = .ok (.iinc 1 1, 3) := by decide +kernel
theorem dX12_notes_35 : decode cX12_notes 35 = .ok (.goto (-24), 3) := by decide +kernel
theorem dX12_notes_38 : decode cX12_notes 38 = .ok (.aload_n 0, 1) := by decide +kernel
theorem dX12_notes_39 : decode cX12_notes 39 = .ok (.bipush 9, 2) := by decide +kernel
theorem dX12_notes_41 : decode cX12_notes 41 = .ok (.putfield 136, 3) := by decide +kernel
theorem dX12_notes_44 : decode cX12_notes 44 = .ok (.iconst 0, 1) := by decide +kernel
theorem dX12_notes_45 : decode cX12_notes 45 = .ok (.istore_n 1, 1) := by decide +kernel
theorem dX12_notes_46 : decode cX12_notes 46 = .ok (.iload_n 1, 1) := by decide +kernel
theorem dX12_notes_47 : decode cX12_notes 47 = .ok (.bipush 14, 2) := by decide +kernel
theorem dX12_notes_49 : decode cX12_notes 49 = .ok (.if_icmp .ge 29, 3) := by decide +kernel
theorem dX12_notes_52 : decode cX12_notes 52 = .ok (.aload_n 0, 1) := by decide +kernel
theorem dX12_notes_53 : decode cX12_notes 53 = .ok (.getfield 35, 3) := by decide +kernel
theorem dX12_notes_56 : decode cX12_notes 56 = .ok (.bipush 14, 2) := by decide +kernel
theorem dX12_notes_58 : decode cX12_notes 58 = .ok (.aload_n 0, 1) := by decide +kernel
theorem dX12_notes_59 : decode cX12_notes 59 = .ok (.getfield 136, 3) := by decide +kernel
theorem dX12_notes_62 : decode cX12_notes 62 = .ok (.imul, 1) := by decide +kernel
theorem dX12_notes_63 : decode cX12_notes 63 = .ok (.iload_n 1, 1) := by decide +kernel
theorem dX12_notes_64 : decode cX12_notes 64 = .ok (.iadd, 1) := by decide +kernel
theorem dX12_notes_65 : decode cX12_notes 65 = .ok (.aload_n 0, 1) := by decide +kernel
theorem dX12_notes_66 : decode cX12_notes 66 = .ok (.getfield 22, 3) := by decide +kernel
theorem dX12_notes_69 : decode cX12_notes 69 = .ok (.iload_n 1, 1) := by decide +kernel
theorem dX12_notes_70 : decode cX12_notes 70 = .ok (.iaload, 1) := by decide +kernel
theorem dX12_notes_71 : decode cX12_notes 71 = .ok (.iastore, 1) := by decide +kernel
theorem dX12_notes_72 : decode cX12_notes 72 = .ok (.iinc 1 1, 3) := by decide +kernel
theorem dX12_notes_75 : decode cX12_notes 75 = .ok (.goto (-29), 3) := by decide +kernel
theorem dX12_notes_78 : decode cX12_notes 78 = .ok (.aload_n 0, 1) := by decide +kernel
theorem dX12_notes_79 : decode cX12_notes 79 = .ok (.dup, 1) := by decide +kernel
theorem dX12_notes_80 : decode cX12_notes 80 = .ok (.getfield 136, 3) := by decide +kernel
theorem dX12_notes_83 : decode cX12_notes 83 = .ok (.iconst 1, 1) := by decide +kernel
theorem dX12_notes_84 : decode cX12_notes 84 = .ok (.iadd, 1) := by decide +kernel
theorem dX12_notes_85 : decode cX12_notes 85 = .ok (.putfield 136, 3) := by decide +kernel
theorem dX12_notes_88 : decode cX12_notes 88 = .ok (.return_, 1) := by decide +kernel
theorem dX12_sets_0 : decode cX12_sets 0 = .ok (.aload_n 0, 1) := by decide +kernel
theorem dX12_sets_1 : decode cX12_sets 1 = .ok (.iconst 2, 1) := by decide +kernel
theorem dX12_sets_2 : decode cX12_sets 2 = .ok (.dup2, 1) := by decide +kernel
theorem dX12_sets_3 : decode cX12_sets 3 = .ok (.iaload, 1) := by decide +kernel
theorem dX12_sets_4 : decode cX12_sets 4 = .ok (.aload_n 0, 1) := by decide +kernel
theorem dX12_sets_5 : decode cX12_sets 5 = .ok (.iconst 1, 1) := by decide +kernel
theorem dX12_sets_6 : decode cX12_sets 6 = .ok (.iaload, 1) := by decide +kernel
theorem dX12_sets_7 : decode cX12_sets 7 = .ok (.iload_n 1, 1) := by decide +kernel
theorem dX12_sets_8 : decode cX12_sets 8 = .ok (.if_icmp .ne 7, 3) := by decide +kernel
theorem dX12_sets_11 : decode cX12_sets 11 = .ok (.iconst 0, 1) := by decide +kernel
theorem dX12_sets_12 : decode cX12_sets 12 = .ok (.goto 4, 3) := by decide +kernel
theorem dX12_sets_15 : decode cX12_sets 15 = .ok (.iconst 1, 1) := by decide +kernel
theorem dX12_sets_16 : decode cX12_sets 16 = .ok (.iadd, 1) := by decide +kernel
theorem dX12_sets_17 : decode cX12_sets 17 = .ok (.iastore, 1) := by decide +kernel
theorem dX12_sets_18 : decode cX12_sets 18 = .ok (.aload_n 0, 1) := by decide +kernel
theorem dX12_sets_19 : decode cX12_sets 19 = .ok (.iconst 1, 1) := by decide +kernel
theorem dX12_sets_20 : decode cX12_sets 20 = .ok (.iload_n 1, 1) := by decide +kernel
theorem dX12_sets_21 : decode cX12_sets 21 = .ok (.iastore, 1) := by decide +kernel
theorem dX12_sets_22 : decode cX12_sets 22 = .ok (.return_, 1) := by decide +kernel
theorem dX12_isSet_0 : decode cX12_isSet 0 = .ok (.iload_n 1, 1) := by decide +kernel
theorem dX12_isSet_1 : decode cX12_isSet 1 = .ok (.iconst 0, 1) := by decide +kernel
theorem dX12_isSet_2 : decode cX12_isSet 2 = .ok (.iconst 1, 1) := by decide +kernel
theorem dX12_isSet_3 : decode cX12_isSet 3 = .ok (.aload_n 0, 1) := by decide +kernel
theorem dX12_isSet_4 : decode cX12_isSet 4 = .ok (.getfield 127, 3) := by decide +kernel
theorem dX12_isSet_7 : decode cX12_isSet 7 = .ok (.ishl, 1) := by decide +kernel
theorem dX12_isSet_8 : decode cX12_isSet 8 = .ok (.iconst 1, 1) := by decide +kernel
theorem dX12_isSet_9 : decode cX12_isSet 9 = .ok (.isub, 1) := by decide +kernel
theorem dX12_isSet_10 : decode cX12_isSet 10 = .ok (.invokestatic 64, 3) := by decide +kernel
theorem dX12_isSet_13 : decode cX12_isSet 13 = .ok (.ifCond .eq 18, 3) := by decide +kernel
theorem dX12_isSet_16 : decode cX12_isSet 16 = .ok (.iload_n 1, 1) := by decide +kernel
theorem dX12_isSet_17 : decode cX12_isSet 17 = .ok (.invokestatic 155, 3) := by decide +kernel
theorem dX12_isSet_20 : decode cX12_isSet 20 = .ok (.aload_n 0, 1) := by decide +kernel
theorem dX12_isSet_21 : decode cX12_isSet 21 = .ok (.getfield 57, 3) := by decide +kernel
theorem dX12_isSet_24 : decode cX12_isSet 24 = .ok (.if_icmp .gt 7, 3) := by decide +kernel
theorem dX12_isSet_27 : decode cX12_isSet 27 = .ok (.iconst 1, 1) := by decide +kernel
theorem dX12_isSet_28 : decode cX12_isSet 28 = .ok (.goto 4, 3) := by decide +kernel
theorem dX12_isSet_31 : decode cX12_isSet 31 = .ok (.iconst 0, 1) := by decide +kernel
theorem dX12_isSet_32 : decode cX12_isSet 32 = .ok (.ireturn, 1) := by decide +kernel
theorem dX12_puts_0 : decode cX12_puts 0 = .ok (.aload_n 0, 1) := by decide +kernel
theorem dX12_puts_1 : decode cX12_puts 1 = .ok (.iconst 0, 1) := by decide +kernel
theorem dX12_puts_2 : decode cX12_puts 2 = .ok (.putfield 61, 3) := by decide +kernel
theorem dX12_puts_5 : decode cX12_puts 5 = .ok (.aload_n 0, 1) := by decide +kernel
theorem dX12_puts_6 : decode cX12_puts 6 = .ok (.iload_n 1, 1) := by decide +kernel
theorem dX12_puts_7 : decode cX12_puts 7 = .ok (.invokevirtual 158, 3) := by decide +kernel
theorem dX12_puts_10 : decode cX12_puts 10 = .ok (.ifCond .ne 5, 3) := by decide +kernel
theorem dX12_puts_13 : decode cX12_puts 13 = .ok (.iconst (-1), 1) := by decide +kernel
theorem dX12_puts_14 : decode cX12_puts 14 = .ok (.ireturn, 1) := by decide +kernel
theorem dX12_puts_15 : decode cX12_puts 15 = .ok (.aload_n 0, 1) := by decide +kernel
theorem dX12_puts_16 : decode cX12_puts 16 = .ok (.invokevirtual 161, 3) := by decide +kernel
theorem dX12_puts_19 : decode cX12_puts 19 = .ok (.aload_n 0, 1) := by decide +kernel
theorem dX12_puts_20 : decode cX12_puts 20 = .ok (.getfield 22, 3) := by decide +kernel
theorem dX12_puts_23 : decode cX12_puts 23 = .ok (.iload_n 1, 1) := by decide +kernel
theorem dX12_puts_24 : decode cX12_puts 24 = .ok (.invokestatic 164, 3) := by decide +kernel
theorem dX12_puts_27 : decode cX12_puts 27 = .ok (.aload_n 0, 1) := by decide +kernel
theorem dX12_puts_28 : decode cX12_puts 28 = .ok (.getfield 22, 3) := by decide +kernel
theorem dX12_puts_31 : decode cX12_puts 31 = .ok (.iconst 2, 1) := by decide +kernel
theorem dX12_puts_32 : decode cX12_puts 32 = .ok (.iaload, 1) := by decide +kernel
theorem dX12_puts_33 : decode cX12_puts 33 = .ok (.ireturn, 1) := by decide +kernel
theorem dX12_outOnes_0 : decode cX12_outOnes 0 = .ok (.iconst 0, 1) := by decide +kernel
theorem dX12_outOnes_1 : decode cX12_outOnes 1 = .ok (.istore_n 2, 1) := by decide +kernel
theorem dX12_outOnes_2 : decode cX12_outOnes 2 = .ok (.iconst 0, 1) := by decide +kernel
theorem dX12_outOnes_3 : decode cX12_outOnes 3 = .ok (.istore_n 3, 1) := by decide +kernel
theorem dX12_outOnes_4 : decode cX12_outOnes 4 = .ok (.iload_n 3, 1) := by decide +kernel
theorem dX12_outOnes_5 : decode cX12_outOnes 5 = .ok (.aload_n 0, 1) := by decide +kernel
theorem dX12_outOnes_6 : decode cX12_outOnes 6 = .ok (.getfield 127, 3) := by decide +kernel
theorem dX12_outOnes_9 : decode cX12_outOnes 9 = .ok (.if_icmp .ge 27, 3) := by decide +kernel
theorem dX12_outOnes_12 : decode cX12_outOnes 12 = .ok (.iload_n 2, 1) := by decide +kernel
theorem dX12_outOnes_13 : decode cX12_outOnes 13 = .ok (.aload_n 1, 1) := by decide +kernel
theorem dX12_outOnes_14 : decode cX12_outOnes 14 = .ok (.iconst 4, 1) := by decide +kernel
theorem dX12_outOnes_15 : decode cX12_outOnes 15 = .ok (.iload_n 3, 1) := by decide +kernel
theorem dX12_outOnes_16 : decode cX12_outOnes 16 = .ok (.iadd, 1) := by decide +kernel
theorem dX12_outOnes_17 : decode cX12_outOnes 17 = .ok (.iaload, 1) := by decide +kernel
theorem dX12_outOnes_18 : decode cX12_outOnes 18 = .ok (.ifCond .ne 9, 3) := by decide +kernel
theorem dX12_outOnes_21 : decode cX12_outOnes 21 = .ok (.iconst 1, 1) := by decide +kernel
theorem dX12_outOnes_22 : decode cX12_outOnes 22 = .ok (.iload_n 3, 1) := by decide +kernel
theorem dX12_outOnes_23 : decode cX12_outOnes 23 = .ok (.ishl, 1) := by decide +kernel
theorem dX12_outOnes_24 : decode cX12_outOnes 24 = .ok (.goto 4, 3) := by decide +kernel
theorem dX12_outOnes_27 : decode cX12_outOnes 27 = .ok (.iconst 0, 1) := by decide +kernel
theorem dX12_outOnes_28 : decode cX12_outOnes 28 = .ok (.ior, 1) := by decide +kernel
theorem dX12_outOnes_29 : decode cX12_outOnes 29 = .ok (.istore_n 2, 1) := by decide +kernel
theorem dX12_outOnes_30 : decode cX12_outOnes 30 = .ok (.iinc 3 1, 3) := by decide +kernel
theorem dX12_outOnes_33 : decode cX12_outOnes 33 = .ok (.goto (-29), 3) := by decide +kernel
theorem dX12_outOnes_36 : decode cX12_outOnes 36 = .ok (.iload_n 2, 1) := by decide +kernel
theorem dX12_outOnes_37 : decode cX12_outOnes 37 = .ok (.ireturn, 1) := by decide +kernel
theorem dX12_turn_0 : decode cX12_turn 0 = .ok (.aload_n 0, 1) := by decide +kernel
theorem dX12_turn_1 : decode cX12_turn 1 = .ok (.iconst 0, 1) := by decide +kernel
theorem dX12_turn_2 : decode cX12_turn 2 = .ok (.putfield 61, 3) := by decide +kernel
theorem dX12_turn_5 : decode cX12_turn 5 = .ok (.aload_n 0, 1) := by decide +kernel
theorem dX12_turn_6 : decode cX12_turn 6 = .ok (.getfield 22, 3) := by decide +kernel
theorem dX12_turn_9 : decode cX12_turn 9 = .ok (.iconst 0, 1) := by decide +kernel
theorem dX12_turn_10 : decode cX12_turn 10 = .ok (.iaload, 1) := by decide +kernel
theorem dX12_turn_11 : decode cX12_turn 11 = .ok (.bipush 99, 2) := by decide +kernel
theorem dX12_turn_13 : decode cX12_turn 13 = .ok (.if_icmp .ne 6, 3) := by decide +kernel
theorem dX12_turn_16 : decode cX12_turn 16 = .ok (.bipush (-2), 2) := by decide +kernel
theorem dX12_turn_18 : decode cX12_turn 18 = .ok (.ireturn, 1) := by decide +kernel
theorem dX12_turn_19 : decode cX12_turn 19 = .ok (.aload_n 0, 1) := by decide +kernel
theorem dX12_turn_20 : decode cX12_turn 20 = .ok (.invokevirtual 161, 3) := by decide +kernel
theorem dX12_turn_23 : decode cX12_turn 23 = .ok (.aload_n 0, 1) := by decide +kernel
theorem dX12_turn_24 : decode cX12_turn 24 = .ok (.aload_n 0, 1) := by decide +kernel
theorem dX12_turn_25 : decode cX12_turn 25 = .ok (.getfield 22, 3) := by decide +kernel
theorem dX12_turn_28 : decode cX12_turn 28 = .ok (.invokevirtual 168, 3) := by decide +kernel
theorem dX12_turn_31 : decode cX12_turn 31 = .ok (.aload_n 0, 1) := by decide +kernel
theorem dX12_turn_32 : decode cX12_turn 32 = .ok (.aload_n 0, 1) := by decide +kernel
theorem dX12_turn_33 : decode cX12_turn 33 = .ok (.getfield 22, 3) := by decide +kernel
theorem dX12_turn_36 : decode cX12_turn 36 = .ok (.invokevirtual 172, 3) := by decide +kernel
theorem dX12_turn_39 : decode cX12_turn 39 = .ok (.invokestatic 155, 3) := by decide +kernel
theorem dX12_turn_42 : decode cX12_turn 42 = .ok (.ireturn, 1) := by decide +kernel
theorem dX12_lends_0 : decode cX12_lends 0 = .ok (.aload_n 0, 1) := by decide +kernel
theorem dX12_lends_1 : decode cX12_lends 1 = .ok (.iconst 0, 1) := by decide +kernel
theorem dX12_lends_2 : decode cX12_lends 2 = .ok (.putfield 61, 3) := by decide +kernel
theorem dX12_lends_5 : decode cX12_lends 5 = .ok (.aload_n 0, 1) := by decide +kernel
theorem dX12_lends_6 : decode cX12_lends 6 = .ok (.iload_n 1, 1) := by decide +kernel
theorem dX12_lends_7 : decode cX12_lends 7 = .ok (.invokevirtual 142, 3) := by decide +kernel
theorem dX12_lends_10 : decode cX12_lends 10 = .ok (.ifCond .eq 13, 3) := by decide +kernel
theorem dX12_lends_13 : decode cX12_lends 13 = .ok (.iload_n 2, 1) := by decide +kernel
theorem dX12_lends_14 : decode cX12_lends 14 = .ok (.iconst 1, 1) := by decide +kernel
theorem dX12_lends_15 : decode cX12_lends 15 = .ok (.bipush 50, 2) := by decide +kernel
theorem dX12_lends_17 : decode cX12_lends 17 = .ok (.invokestatic 64, 3) := by decide +kernel
theorem dX12_lends_20 : decode cX12_lends 20 = .ok (.ifCond .ne 5, 3) := by decide +kernel
theorem dX12_lends_23 : decode cX12_lends 23 = .ok (.iconst (-1), 1) := by decide +kernel
theorem dX12_lends_24 : decode cX12_lends 24 = .ok (.ireturn, 1) := by decide +kernel
theorem dX12_lends_25 : decode cX12_lends 25 = .ok (.aload_n 0, 1) := by decide +kernel
theorem dX12_lends_26 : decode cX12_lends 26 = .ok (.getfield 22, 3) := by decide +kernel
theorem dX12_lends_29 : decode cX12_lends 29 = .ok (.iconst 4, 1) := by decide +kernel
theorem dX12_lends_30 : decode cX12_lends 30 = .ok (.iload_n 1, 1) := by decide +kernel
theorem dX12_lends_31 : decode cX12_lends 31 = .ok (.iadd, 1) := by decide +kernel
theorem dX12_lends_32 : decode cX12_lends 32 = .ok (.iaload, 1) := by decide +kernel
theorem dX12_lends_33 : decode cX12_lends 33 = .ok (.iload_n 2, 1) := by decide +kernel
theorem dX12_lends_34 : decode cX12_lends 34 = .ok (.if_icmp .ge 6, 3) := by decide +kernel
theorem dX12_lends_37 : decode cX12_lends 37 = .ok (.bipush (-2), 2) := by decide +kernel
theorem dX12_lends_39 : decode cX12_lends 39 = .ok (.ireturn, 1) := by decide +kernel
theorem dX12_lends_40 : decode cX12_lends 40 = .ok (.aload_n 0, 1) := by decide +kernel
theorem dX12_lends_41 : decode cX12_lends 41 = .ok (.invokevirtual 161, 3) := by decide +kernel
theorem dX12_lends_44 : decode cX12_lends 44 = .ok (.aload_n 0, 1) := by decide +kernel
theorem dX12_lends_45 : decode cX12_lends 45 = .ok (.getfield 22, 3) := by decide +kernel
theorem dX12_lends_48 : decode cX12_lends 48 = .ok (.iconst 4, 1) := by decide +kernel
theorem dX12_lends_49 : decode cX12_lends 49 = .ok (.iload_n 1, 1) := by decide +kernel
theorem dX12_lends_50 : decode cX12_lends 50 = .ok (.iadd, 1) := by decide +kernel
theorem dX12_lends_51 : decode cX12_lends 51 = .ok (.dup2, 1) := by decide +kernel
theorem dX12_lends_52 : decode cX12_lends 52 = .ok (.iaload, 1) := by decide +kernel
theorem dX12_lends_53 : decode cX12_lends 53 = .ok (.iload_n 2, 1) := by decide +kernel
theorem dX12_lends_54 : decode cX12_lends 54 = .ok (.isub, 1) := by decide +kernel
theorem dX12_lends_55 : decode cX12_lends 55 = .ok (.iastore, 1) := by decide +kernel
theorem dX12_lends_56 : decode cX12_lends 56 = .ok (.aload_n 0, 1) := by decide +kernel
theorem dX12_lends_57 : decode cX12_lends 57 = .ok (.getfield 22, 3) := by decide +kernel
theorem dX12_lends_60 : decode cX12_lends 60 = .ok (.iconst 4, 1) := by decide +kernel
theorem dX12_lends_61 : decode cX12_lends 61 = .ok (.iload_n 1, 1) := by decide +kernel
theorem dX12_lends_62 : decode cX12_lends 62 = .ok (.iadd, 1) := by decide +kernel
theorem dX12_lends_63 : decode cX12_lends 63 = .ok (.iaload, 1) := by decide +kernel
theorem dX12_lends_64 : decode cX12_lends 64 = .ok (.ireturn, 1) := by decide +kernel
theorem dX12_undo_0 : decode cX12_undo 0 = .ok (.aload_n 0, 1) := by decide +kernel
theorem dX12_undo_1 : decode cX12_undo 1 = .ok (.iconst 0, 1) := by decide +kernel
theorem dX12_undo_2 : decode cX12_undo 2 = .ok (.putfield 61, 3) := by decide +kernel
theorem dX12_undo_5 : decode cX12_undo 5 = .ok (.aload_n 0, 1) := by decide +kernel
theorem dX12_undo_6 : decode cX12_undo 6 = .ok (.getfield 136, 3) := by decide +kernel
theorem dX12_undo_9 : decode cX12_undo 9 = .ok (.ifCond .ne 6, 3) := by decide +kernel
theorem dX12_undo_12 : decode cX12_undo 12 = .ok (.bipush (-2), 2) := by decide +kernel
theorem dX12_undo_14 : decode cX12_undo 14 = .ok (.ireturn, 1) := by decide +kernel
theorem dX12_undo_15 : decode cX12_undo 15 = .ok (.aload_n 0, 1) := by decide +kernel
theorem dX12_undo_16 : decode cX12_undo 16 = .ok (.dup, 1) := by decide +kernel
theorem dX12_undo_17 : decode cX12_undo 17 = .ok (.getfield 136, 3) := by decide +kernel
theorem dX12_undo_20 : decode cX12_undo 20 = .ok (.iconst 1, 1) := by decide +kernel
theorem dX12_undo_21 : decode cX12_undo 21 = .ok (.isub, 1) := by decide +kernel
theorem dX12_undo_22 : decode cX12_undo 22 = .ok (.putfield 136, 3) := by decide +kernel
theorem dX12_undo_25 : decode cX12_undo 25 = .ok (.iconst 0, 1) := by decide +kernel
theorem dX12_undo_26 : decode cX12_undo 26 = .ok (.istore_n 1, 1) := by decide +kernel
theorem dX12_undo_27 : decode cX12_undo 27 = .ok (.iload_n 1, 1) := by decide +kernel
theorem dX12_undo_28 : decode cX12_undo 28 = .ok (.bipush 14, 2) := by decide +kernel
theorem dX12_undo_30 : decode cX12_undo 30 = .ok (.if_icmp .ge 29, 3) := by decide +kernel
theorem dX12_undo_33 : decode cX12_undo 33 = .ok (.aload_n 0, 1) := by decide +kernel
theorem dX12_undo_34 : decode cX12_undo 34 = .ok (.getfield 22, 3) := by decide +kernel
theorem dX12_undo_37 : decode cX12_undo 37 = .ok (.iload_n 1, 1) := by decide +kernel
theorem dX12_undo_38 : decode cX12_undo 38 = .ok (.aload_n 0, 1) := by decide +kernel
theorem dX12_undo_39 : decode cX12_undo 39 = .ok (.getfield 35, 3) := by decide +kernel
theorem dX12_undo_42 : decode cX12_undo 42 = .ok (.bipush 14, 2) := by decide +kernel
theorem dX12_undo_44 : decode cX12_undo 44 = .ok (.aload_n 0, 1) := by decide +kernel
theorem dX12_undo_45 : decode cX12_undo 45 = .ok (.getfield 136, 3) := by decide +kernel
theorem dX12_undo_48 : decode cX12_undo 48 = .ok (.imul, 1) := by decide +kernel
theorem dX12_undo_49 : decode cX12_undo 49 = .ok (.iload_n 1, 1) := by decide +kernel
theorem dX12_undo_50 : decode cX12_undo 50 = .ok (.iadd, 1) := by decide +kernel
theorem dX12_undo_51 : decode cX12_undo 51 = .ok (.iaload, 1) := by decide +kernel
theorem dX12_undo_52 : decode cX12_undo 52 = .ok (.iastore, 1) := by decide +kernel
theorem dX12_undo_53 : decode cX12_undo 53 = .ok (.iinc 1 1, 3) := by decide +kernel
theorem dX12_undo_56 : decode cX12_undo 56 = .ok (.goto (-29), 3) := by decide +kernel
theorem dX12_undo_59 : decode cX12_undo 59 = .ok (.aload_n 0, 1) := by decide +kernel
theorem dX12_undo_60 : decode cX12_undo 60 = .ok (.getfield 136, 3) := by decide +kernel
theorem dX12_undo_63 : decode cX12_undo 63 = .ok (.ireturn, 1) := by decide +kernel
theorem dX12_fair_0 : decode cX12_fair 0 = .ok (.iconst 0, 1) := by decide +kernel
theorem dX12_fair_1 : decode cX12_fair 1 = .ok (.istore_n 1, 1) := by decide +kernel
theorem dX12_fair_2 : decode cX12_fair 2 = .ok (.sipush 1000, 3) := by decide +kernel
theorem dX12_fair_5 : decode cX12_fair 5 = .ok (.istore_n 2, 1) := by decide +kernel
theorem dX12_fair_6 : decode cX12_fair 6 = .ok (.iconst 0, 1) := by decide +kernel
theorem dX12_fair_7 : decode cX12_fair 7 = .ok (.istore_n 3, 1) := by decide +kernel
theorem dX12_fair_8 : decode cX12_fair 8 = .ok (.iload_n 3, 1) := by decide +kernel
theorem dX12_fair_9 : decode cX12_fair 9 = .ok (.aload_n 0, 1) := by decide +kernel
theorem dX12_fair_10 : decode cX12_fair 10 = .ok (.getfield 127, 3) := by decide +kernel
theorem dX12_fair_13 : decode cX12_fair 13 = .ok (.if_icmp .ge 63, 3) := by decide +kernel
theorem dX12_fair_16 : decode cX12_fair 16 = .ok (.aload_n 0, 1) := by decide +kernel
theorem dX12_fair_17 : decode cX12_fair 17 = .ok (.getfield 22, 3) := by decide +kernel
theorem dX12_fair_20 : decode cX12_fair 20 = .ok (.bipush 9, 2) := by decide +kernel
theorem dX12_fair_22 : decode cX12_fair 22 = .ok (.iload_n 3, 1) := by decide +kernel
theorem dX12_fair_23 : decode cX12_fair 23 = .ok (.iadd, 1) := by decide +kernel
theorem dX12_fair_24 : decode cX12_fair 24 = .ok (.iaload, 1) := by decide +kernel
theorem dX12_fair_25 : decode cX12_fair 25 = .ok (.iload_n 1, 1) := by decide +kernel
theorem dX12_fair_26 : decode cX12_fair 26 = .ok (.if_icmp .le 15, 3) := by decide +kernel
theorem dX12_fair_29 : decode cX12_fair 29 = .ok (.aload_n 0, 1) := by decide +kernel
theorem dX12_fair_30 : decode cX12_fair 30 = .ok (.getfield 22, 3) := by decide +kernel
theorem dX12_fair_33 : decode cX12_fair 33 = .ok (.bipush 9, 2) := by decide +kernel
theorem dX12_fair_35 : decode cX12_fair 35 = .ok (.iload_n 3, 1) := by decide +kernel
theorem dX12_fair_36 : decode cX12_fair 36 = .ok (.iadd, 1) := by decide +kernel
theorem dX12_fair_37 : decode cX12_fair 37 = .ok (.iaload, 1) := by decide +kernel
theorem dX12_fair_38 : decode cX12_fair 38 = .ok (.goto 4, 3) := by decide +kernel
theorem dX12_fair_41 : decode cX12_fair 41 = .ok (.iload_n 1, 1) := by decide +kernel
theorem dX12_fair_42 : decode cX12_fair 42 = .ok (.istore_n 1, 1) := by decide +kernel
theorem dX12_fair_43 : decode cX12_fair 43 = .ok (.aload_n 0, 1) := by decide +kernel
theorem dX12_fair_44 : decode cX12_fair 44 = .ok (.getfield 22, 3) := by decide +kernel
theorem dX12_fair_47 : decode cX12_fair 47 = .ok (.bipush 9, 2) := by decide +kernel
theorem dX12_fair_49 : decode cX12_fair 49 = .ok (.iload_n 3, 1) := by decide +kernel
theorem dX12_fair_50 : decode cX12_fair 50 = .ok (.iadd, 1) := by decide +kernel
theorem dX12_fair_51 : decode cX12_fair 51 = .ok (.iaload, 1) := by decide +kernel
theorem dX12_fair_52 : decode cX12_fair 52 = .ok (.iload_n 2, 1) := by decide +kernel
theorem dX12_fair_53 : decode cX12_fair 53 = .ok (.if_icmp .ge 15, 3) := by decide +kernel
theorem dX12_fair_56 : decode cX12_fair 56 = .ok (.aload_n 0, 1) := by decide +kernel
theorem dX12_fair_57 : decode cX12_fair 57 = .ok (.getfield 22, 3) := by decide +kernel
theorem dX12_fair_60 : decode cX12_fair 60 = .ok (.bipush 9, 2) := by decide +kernel
theorem dX12_fair_62 : decode cX12_fair 62 = .ok (.iload_n 3, 1) := by decide +kernel
theorem dX12_fair_63 : decode cX12_fair 63 = .ok (.iadd, 1) := by decide +kernel
theorem dX12_fair_64 : decode cX12_fair 64 = .ok (.iaload, 1) := by decide +kernel
theorem dX12_fair_65 : decode cX12_fair 65 = .ok (.goto 4, 3) := by decide +kernel
theorem dX12_fair_68 : decode cX12_fair 68 = .ok (.iload_n 2, 1) := by decide +kernel
theorem dX12_fair_69 : decode cX12_fair 69 = .ok (.istore_n 2, 1) := by decide +kernel
theorem dX12_fair_70 : decode cX12_fair 70 = .ok (.iinc 3 1, 3) := by decide +kernel
theorem dX12_fair_73 : decode cX12_fair 73 = .ok (.goto (-65), 3) := by decide +kernel
theorem dX12_fair_76 : decode cX12_fair 76 = .ok (.aload_n 0, 1) := by decide +kernel
theorem dX12_fair_77 : decode cX12_fair 77 = .ok (.getfield 127, 3) := by decide +kernel
theorem dX12_fair_80 : decode cX12_fair 80 = .ok (.ifCond .ne 7, 3) := by decide +kernel
theorem dX12_fair_83 : decode cX12_fair 83 = .ok (.iconst 0, 1) := by decide +kernel
theorem dX12_fair_84 : decode cX12_fair 84 = .ok (.goto 6, 3) := by decide +kernel
theorem dX12_fair_87 : decode cX12_fair 87 = .ok (.iload_n 1, 1) := by decide +kernel
theorem dX12_fair_88 : decode cX12_fair 88 = .ok (.iload_n 2, 1) := by decide +kernel
theorem dX12_fair_89 : decode cX12_fair 89 = .ok (.isub, 1) := by decide +kernel
theorem dX12_fair_90 : decode cX12_fair 90 = .ok (.ireturn, 1) := by decide +kernel
theorem dX12_leans_0 : decode cX12_leans 0 = .ok (.iconst 0, 1) := by decide +kernel
theorem dX12_leans_1 : decode cX12_leans 1 = .ok (.istore_n 1, 1) := by decide +kernel
theorem dX12_leans_2 : decode cX12_leans 2 = .ok (.iconst 0, 1) := by decide +kernel
theorem dX12_leans_3 : decode cX12_leans 3 = .ok (.istore_n 2, 1) := by decide +kernel
theorem dX12_leans_4 : decode cX12_leans 4 = .ok (.iconst 1, 1) := by decide +kernel
theorem dX12_leans_5 : decode cX12_leans 5 = .ok (.istore_n 3, 1) := by decide +kernel
theorem dX12_leans_6 : decode cX12_leans 6 = .ok (.iload_n 3, 1) := by decide +kernel
theorem dX12_leans_7 : decode cX12_leans 7 = .ok (.aload_n 0, 1) := by decide +kernel
theorem dX12_leans_8 : decode cX12_leans 8 = .ok (.getfield 127, 3) := by decide +kernel
theorem dX12_leans_11 : decode cX12_leans 11 = .ok (.if_icmp .ge 59, 3) := by decide +kernel
theorem dX12_leans_14 : decode cX12_leans 14 = .ok (.aload_n 0, 1) := by decide +kernel
theorem dX12_leans_15 : decode cX12_leans 15 = .ok (.getfield 22, 3) := by decide +kernel
theorem dX12_leans_18 : decode cX12_leans 18 = .ok (.iconst 4, 1) := by decide +kernel
theorem dX12_leans_19 : decode cX12_leans 19 = .ok (.iload_n 3, 1) := by decide +kernel
theorem dX12_leans_20 : decode cX12_leans 20 = .ok (.iadd, 1) := by decide +kernel
theorem dX12_leans_21 : decode cX12_leans 21 = .ok (.iaload, 1) := by decide +kernel
theorem dX12_leans_22 : decode cX12_leans 22 = .ok (.aload_n 0, 1) := by decide +kernel
theorem dX12_leans_23 : decode cX12_leans 23 = .ok (.getfield 22, 3) := by decide +kernel
theorem dX12_leans_26 : decode cX12_leans 26 = .ok (.iconst 4, 1) := by decide +kernel
theorem dX12_leans_27 : decode cX12_leans 27 = .ok (.iload_n 1, 1) := by decide +kernel
theorem dX12_leans_28 : decode cX12_leans 28 = .ok (.iadd, 1) := by decide +kernel
theorem dX12_leans_29 : decode cX12_leans 29 = .ok (.iaload, 1) := by decide +kernel
theorem dX12_leans_30 : decode cX12_leans 30 = .ok (.if_icmp .le 7, 3) := by decide +kernel
theorem dX12_leans_33 : decode cX12_leans 33 = .ok (.iload_n 3, 1) := by decide +kernel
theorem dX12_leans_34 : decode cX12_leans 34 = .ok (.goto 4, 3) := by decide +kernel
theorem dX12_leans_37 : decode cX12_leans 37 = .ok (.iload_n 1, 1) := by decide +kernel
theorem dX12_leans_38 : decode cX12_leans 38 = .ok (.istore_n 1, 1) := by decide +kernel
theorem dX12_leans_39 : decode cX12_leans 39 = .ok (.aload_n 0, 1) := by decide +kernel
theorem dX12_leans_40 : decode cX12_leans 40 = .ok (.getfield 22, 3) := by decide +kernel
theorem dX12_leans_43 : decode cX12_leans 43 = .ok (.iconst 4, 1) := by decide +kernel
theorem dX12_leans_44 : decode cX12_leans 44 = .ok (.iload_n 3, 1) := by decide +kernel
theorem dX12_leans_45 : decode cX12_leans 45 = .ok (.iadd, 1) := by decide +kernel
theorem dX12_leans_46 : decode cX12_leans 46 = .ok (.iaload, 1) := by decide +kernel
theorem dX12_leans_47 : decode cX12_leans 47 = .ok (.aload_n 0, 1) := by decide +kernel
theorem dX12_leans_48 : decode cX12_leans 48 = .ok (.getfield 22, 3) := by decide +kernel
theorem dX12_leans_51 : decode cX12_leans 51 = .ok (.iconst 4, 1) := by decide +kernel
theorem dX12_leans_52 : decode cX12_leans 52 = .ok (.iload_n 2, 1) := by decide +kernel
theorem dX12_leans_53 : decode cX12_leans 53 = .ok (.iadd, 1) := by decide +kernel
theorem dX12_leans_54 : decode cX12_leans 54 = .ok (.iaload, 1) := by decide +kernel
theorem dX12_leans_55 : decode cX12_leans 55 = .ok (.if_icmp .ge 7, 3) := by decide +kernel
theorem dX12_leans_58 : decode cX12_leans 58 = .ok (.iload_n 3, 1) := by decide +kernel
theorem dX12_leans_59 : decode cX12_leans 59 = .ok (.goto 4, 3) := by decide +kernel
theorem dX12_leans_62 : decode cX12_leans 62 = .ok (.iload_n 2, 1) := by decide +kernel
theorem dX12_leans_63 : decode cX12_leans 63 = .ok (.istore_n 2, 1) := by decide +kernel
theorem dX12_leans_64 : decode cX12_leans 64 = .ok (.iinc 3 1, 3) := by decide +kernel
theorem dX12_leans_67 : decode cX12_leans 67 = .ok (.goto (-61), 3) := by decide +kernel
theorem dX12_leans_70 : decode cX12_leans 70 = .ok (.aload_n 0, 1) := by decide +kernel
theorem dX12_leans_71 : decode cX12_leans 71 = .ok (.getfield 127, 3) := by decide +kernel
theorem dX12_leans_74 : decode cX12_leans 74 = .ok (.iconst 2, 1) := by decide +kernel
theorem dX12_leans_75 : decode cX12_leans 75 = .ok (.if_icmp .ge 8, 3) := by decide +kernel
theorem dX12_leans_78 : decode cX12_leans 78 = .ok (.bipush (-9), 2) := by decide +kernel
theorem dX12_leans_80 : decode cX12_leans 80 = .ok (.goto 9, 3) := by decide +kernel
theorem dX12_leans_83 : decode cX12_leans 83 = .ok (.bipush 10, 2) := by decide +kernel
theorem dX12_leans_85 : decode cX12_leans 85 = .ok (.iload_n 1, 1) := by decide +kernel
theorem dX12_leans_86 : decode cX12_leans 86 = .ok (.imul, 1) := by decide +kernel
theorem dX12_leans_87 : decode cX12_leans 87 = .ok (.iload_n 2, 1) := by decide +kernel
theorem dX12_leans_88 : decode cX12_leans 88 = .ok (.iadd, 1) := by decide +kernel
theorem dX12_leans_89 : decode cX12_leans 89 = .ok (.ireturn, 1) := by decide +kernel
theorem dX12_now_0 : decode cX12_now 0 = .ok (.aload_n 0, 1) := by decide +kernel
theorem dX12_now_1 : decode cX12_now 1 = .ok (.iconst 0, 1) := by decide +kernel
theorem dX12_now_2 : decode cX12_now 2 = .ok (.putfield 61, 3) := by decide +kernel
theorem dX12_now_5 : decode cX12_now 5 = .ok (.iload_n 1, 1) := by decide +kernel
theorem dX12_now_6 : decode cX12_now 6 = .ok (.iconst 0, 1) := by decide +kernel
theorem dX12_now_7 : decode cX12_now 7 = .ok (.bipush 7, 2) := by decide +kernel
theorem dX12_now_9 : decode cX12_now 9 = .ok (.invokestatic 64, 3) := by decide +kernel
theorem dX12_now_12 : decode cX12_now 12 = .ok (.ifCond .ne 5, 3) := by decide +kernel
theorem dX12_now_15 : decode cX12_now 15 = .ok (.iconst (-1), 1) := by decide +kernel
theorem dX12_now_16 : decode cX12_now 16 = .ok (.ireturn, 1) := by decide +kernel
theorem dX12_now_17 : decode cX12_now 17 = .ok (.iload_n 1, 1) := by decide +kernel
theorem dX12_now_18 : decode cX12_now 18 = .ok (.iconst 4, 1) := by decide +kernel
theorem dX12_now_19 : decode cX12_now 19 = .ok (.if_icmp .ge 53, 3) := by decide +kernel
theorem dX12_now_22 : decode cX12_now 22 = .ok (.iload_n 1, 1) := by decide +kernel
theorem dX12_now_23 : decode cX12_now 23 = .ok (.ifCond .ne 12, 3) := by decide +kernel
theorem dX12_now_26 : decode cX12_now 26 = .ok (.aload_n 0, 1) := by decide +kernel
theorem dX12_now_27 : decode cX12_now 27 = .ok (.getfield 22, 3) := by decide +kernel
theorem dX12_now_30 : decode cX12_now 30 = .ok (.iconst 0, 1) := by decide +kernel
theorem dX12_now_31 : decode cX12_now 31 = .ok (.iaload, 1) := by decide +kernel
theorem dX12_now_32 : decode cX12_now 32 = .ok (.goto 39, 3) := by decide +kernel
theorem dX12_now_35 : decode cX12_now 35 = .ok (.iload_n 1, 1) := by decide +kernel
theorem dX12_now_36 : decode cX12_now 36 = .ok (.iconst 1, 1) := by decide +kernel
theorem dX12_now_37 : decode cX12_now 37 = .ok (.if_icmp .ne 12, 3) := by decide +kernel
theorem dX12_now_40 : decode cX12_now 40 = .ok (.aload_n 0, 1) := by decide +kernel
theorem dX12_now_41 : decode cX12_now 41 = .ok (.getfield 22, 3) := by decide +kernel
theorem dX12_now_44 : decode cX12_now 44 = .ok (.iconst 1, 1) := by decide +kernel
theorem dX12_now_45 : decode cX12_now 45 = .ok (.iaload, 1) := by decide +kernel
theorem dX12_now_46 : decode cX12_now 46 = .ok (.goto 25, 3) := by decide +kernel
theorem dX12_now_49 : decode cX12_now 49 = .ok (.iload_n 1, 1) := by decide +kernel
theorem dX12_now_50 : decode cX12_now 50 = .ok (.iconst 2, 1) := by decide +kernel
theorem dX12_now_51 : decode cX12_now 51 = .ok (.if_icmp .ne 14, 3) := by decide +kernel
theorem dX12_now_54 : decode cX12_now 54 = .ok (.aload_n 0, 1) := by decide +kernel
theorem dX12_now_55 : decode cX12_now 55 = .ok (.aload_n 0, 1) := by decide +kernel
theorem dX12_now_56 : decode cX12_now 56 = .ok (.getfield 22, 3) := by decide +kernel
theorem dX12_now_59 : decode cX12_now 59 = .ok (.invokevirtual 172, 3) := by decide +kernel
theorem dX12_now_62 : decode cX12_now 62 = .ok (.goto 9, 3) := by decide +kernel
theorem dX12_now_65 : decode cX12_now 65 = .ok (.aload_n 0, 1) := by decide +kernel
theorem dX12_now_66 : decode cX12_now 66 = .ok (.getfield 22, 3) := by decide +kernel
theorem dX12_now_69 : decode cX12_now 69 = .ok (.iconst 3, 1) := by decide +kernel
theorem dX12_now_70 : decode cX12_now 70 = .ok (.iaload, 1) := by decide +kernel
theorem dX12_now_71 : decode cX12_now 71 = .ok (.ireturn, 1) := by decide +kernel
theorem dX12_now_72 : decode cX12_now 72 = .ok (.iload_n 1, 1) := by decide +kernel
theorem dX12_now_73 : decode cX12_now 73 = .ok (.iconst 4, 1) := by decide +kernel
theorem dX12_now_74 : decode cX12_now 74 = .ok (.if_icmp .ne 12, 3) := by decide +kernel
theorem dX12_now_77 : decode cX12_now 77 = .ok (.aload_n 0, 1) := by decide +kernel
theorem dX12_now_78 : decode cX12_now 78 = .ok (.getfield 22, 3) := by decide +kernel
theorem dX12_now_81 : decode cX12_now 81 = .ok (.iconst 2, 1) := by decide +kernel
theorem dX12_now_82 : decode cX12_now 82 = .ok (.iaload, 1) := by decide +kernel
theorem dX12_now_83 : decode cX12_now 83 = .ok (.goto 32, 3) := by decide +kernel
theorem dX12_now_86 : decode cX12_now 86 = .ok (.iload_n 1, 1) := by decide +kernel
theorem dX12_now_87 : decode cX12_now 87 = .ok (.iconst 5, 1) := by decide +kernel
theorem dX12_now_88 : decode cX12_now 88 = .ok (.if_icmp .ne 10, 3) := by decide +kernel
theorem dX12_now_91 : decode cX12_now 91 = .ok (.aload_n 0, 1) := by decide +kernel
theorem dX12_now_92 : decode cX12_now 92 = .ok (.invokevirtual 176, 3) := by decide +kernel
theorem dX12_now_95 : decode cX12_now 95 = .ok (.goto 20, 3) := by decide +kernel
theorem dX12_now_98 : decode cX12_now 98 = .ok (.iload_n 1, 1) := by decide +kernel
theorem dX12_now_99 : decode cX12_now 99 = .ok (.bipush 6, 2) := by decide +kernel
theorem dX12_now_101 : decode cX12_now 101 = .ok (.if_icmp .ne 10, 3) := by decide +kernel
theorem dX12_now_104 : decode cX12_now 104 = .ok (.aload_n 0, 1) := by decide +kernel
theorem dX12_now_105 : decode cX12_now 105 = .ok (.invokevirtual 180, 3) := by decide +kernel
theorem dX12_now_108 : decode cX12_now 108 = .ok (.goto 7, 3) := by decide +kernel
theorem dX12_now_111 : decode cX12_now 111 = .ok (.aload_n 0, 1) := by decide +kernel
theorem dX12_now_112 : decode cX12_now 112 = .ok (.getfield 136, 3) := by decide +kernel
theorem dX12_now_115 : decode cX12_now 115 = .ok (.ireturn, 1) := by decide +kernel
theorem dX12_asNow_0 : decode cX12_asNow 0 = .ok (.iconst 0, 1) := by decide +kernel
theorem dX12_asNow_1 : decode cX12_asNow 1 = .ok (.istore_n 1, 1) := by decide +kernel
theorem dX12_asNow_2 : decode cX12_asNow 2 = .ok (.iload_n 1, 1) := by decide +kernel
theorem dX12_asNow_3 : decode cX12_asNow 3 = .ok (.bipush 14, 2) := by decide +kernel
theorem dX12_asNow_5 : decode cX12_asNow 5 = .ok (.if_icmp .ge 21, 3) := by decide +kernel
theorem dX12_asNow_8 : decode cX12_asNow 8 = .ok (.aload_n 0, 1) := by decide +kernel
theorem dX12_asNow_9 : decode cX12_asNow 9 = .ok (.getfield 25, 3) := by decide +kernel
theorem dX12_asNow_12 : decode cX12_asNow 12 = .ok (.iload_n 1, 1) := by decide +kernel
theorem dX12_asNow_13 : decode cX12_asNow 13 = .ok (.aload_n 0, 1) := by decide +kernel
theorem dX12_asNow_14 : decode cX12_asNow 14 = .ok (.getfield 22, 3) := by decide +kernel
theorem dX12_asNow_17 : decode cX12_asNow 17 = .ok (.iload_n 1, 1) := by decide +kernel
theorem dX12_asNow_18 : decode cX12_asNow 18 = .ok (.iaload, 1) := by decide +kernel
theorem dX12_asNow_19 : decode cX12_asNow 19 = .ok (.iastore, 1) := by decide +kernel
theorem dX12_asNow_20 : decode cX12_asNow 20 = .ok (.iinc 1 1, 3) := by decide +kernel
theorem dX12_asNow_23 : decode cX12_asNow 23 = .ok (.goto (-21), 3) := by decide +kernel
theorem dX12_asNow_26 : decode cX12_asNow 26 = .ok (.return_, 1) := by decide +kernel
theorem dX12_power_0 : decode cX12_power 0 = .ok (.iconst 1, 1) := by decide +kernel
theorem dX12_power_1 : decode cX12_power 1 = .ok (.istore_n 2, 1) := by decide +kernel
theorem dX12_power_2 : decode cX12_power 2 = .ok (.iconst 0, 1) := by decide +kernel
theorem dX12_power_3 : decode cX12_power 3 = .ok (.istore_n 3, 1) := by decide +kernel
theorem dX12_power_4 : decode cX12_power 4 = .ok (.iload_n 3, 1) := by decide +kernel
theorem dX12_power_5 : decode cX12_power 5 = .ok (.iload_n 1, 1) := by decide +kernel
theorem dX12_power_6 : decode cX12_power 6 = .ok (.if_icmp .ge 13, 3) := by decide +kernel
theorem dX12_power_9 : decode cX12_power 9 = .ok (.iload_n 2, 1) := by decide +kernel
theorem dX12_power_10 : decode cX12_power 10 = .ok (.iload_n 0, 1) := by decide +kernel
theorem dX12_power_11 : decode cX12_power 11 = .ok (.imul, 1) := by decide +kernel
theorem dX12_power_12 : decode cX12_power 12 = .ok (.istore_n 2, 1) := by decide +kernel
theorem dX12_power_13 : decode cX12_power 13 = .ok (.iinc 3 1, 3) := by decide +kernel
theorem dX12_power_16 : decode cX12_power 16 = .ok (.goto (-12), 3) := by decide +kernel
theorem dX12_power_19 : decode cX12_power 19 = .ok (.iload_n 2, 1) := by decide +kernel
theorem dX12_power_20 : decode cX12_power 20 = .ok (.ireturn, 1) := by decide +kernel
theorem dX12_choose_0 : decode cX12_choose 0 = .ok (.aload_n 0, 1) := by decide +kernel
theorem dX12_choose_1 : decode cX12_choose 1 = .ok (.iconst 0, 1) := by decide +kernel
theorem dX12_choose_2 : decode cX12_choose 2 = .ok (.putfield 183, 3) := by decide +kernel
theorem dX12_choose_5 : decode cX12_choose 5 = .ok (.iconst 0, 1) := by decide +kernel
theorem dX12_choose_6 : decode cX12_choose 6 = .ok (.istore_n 1, 1) := by decide +kernel
theorem dX12_choose_7 : decode cX12_choose 7 = .ok (.iload_n 1, 1) := by decide +kernel
theorem dX12_choose_8 : decode cX12_choose 8 = .ok (.iconst 1, 1) := by decide +kernel
theorem dX12_choose_9 : decode cX12_choose 9 = .ok (.aload_n 0, 1) := by decide +kernel
theorem dX12_choose_10 : decode cX12_choose 10 = .ok (.getfield 127, 3) := by decide +kernel
theorem dX12_choose_13 : decode cX12_choose 13 = .ok (.ishl, 1) := by decide +kernel
theorem dX12_choose_14 : decode cX12_choose 14 = .ok (.if_icmp .ge 37, 3) := by decide +kernel
theorem dX12_choose_17 : decode cX12_choose 17 = .ok (.aload_n 0, 1) := by decide +kernel
theorem dX12_choose_18 : decode cX12_choose 18 = .ok (.iload_n 1, 1) := by decide +kernel
theorem dX12_choose_19 : decode cX12_choose 19 = .ok (.invokevirtual 158, 3) := by decide +kernel
theorem dX12_choose_22 : decode cX12_choose 22 = .ok (.ifCond .eq 23, 3) := by decide +kernel
theorem dX12_choose_25 : decode cX12_choose 25 = .ok (.aload_n 0, 1) := by decide +kernel
theorem dX12_choose_26 : decode cX12_choose 26 = .ok (.getfield 54, 3) := by decide +kernel
theorem dX12_choose_29 : decode cX12_choose 29 = .ok (.aload_n 0, 1) := by decide +kernel
theorem dX12_choose_30 : decode cX12_choose 30 = .ok (.getfield 183, 3) := by decide +kernel
theorem dX12_choose_33 : decode cX12_choose 33 = .ok (.iload_n 1, 1) := by decide +kernel
theorem dX12_choose_34 : decode cX12_choose 34 = .ok (.iastore, 1) := by decide +kernel
theorem dX12_choose_35 : decode cX12_choose 35 = .ok (.aload_n 0, 1) := by decide +kernel
theorem dX12_choose_36 : decode cX12_choose 36 = .ok (.dup, 1) := by decide +kernel
theorem dX12_choose_37 : decode cX12_choose 37 = .ok (.getfield 183, 3) := by decide +kernel
theorem dX12_choose_40 : decode cX12_choose 40 = .ok (.iconst 1, 1) := by decide +kernel
theorem dX12_choose_41 : decode cX12_choose 41 = .ok (.iadd, 1) := by decide +kernel
theorem dX12_choose_42 : decode cX12_choose 42 = .ok (.putfield 183, 3) := by decide +kernel
theorem dX12_choose_45 : decode cX12_choose 45 = .ok (.iinc 1 1, 3) := by decide +kernel
theorem dX12_choose_48 : decode cX12_choose 48 = .ok (.goto (-41), 3) := by decide +kernel
theorem dX12_choose_51 : decode cX12_choose 51 = .ok (.return_, 1) := by decide +kernel
theorem dX12_tries_0 : decode cX12_tries 0 = .ok (.aload_n 0, 1) := by decide +kernel
theorem dX12_tries_1 : decode cX12_tries 1 = .ok (.getfield 183, 3) := by decide +kernel
theorem dX12_tries_4 : decode cX12_tries 4 = .ok (.iload_n 2, 1) := by decide +kernel
theorem dX12_tries_5 : decode cX12_tries 5 = .ok (.invokestatic 186, 3) := by decide +kernel
theorem dX12_tries_8 : decode cX12_tries 8 = .ok (.istore_n 3, 1) := by decide +kernel
theorem dX12_tries_9 : decode cX12_tries 9 = .ok (.aload_n 0, 1) := by decide +kernel
theorem dX12_tries_10 : decode cX12_tries 10 = .ok (.invokevirtual 189, 3) := by decide +kernel
theorem dX12_tries_13 : decode cX12_tries 13 = .ok (.iconst 0, 1) := by decide +kernel
theorem dX12_tries_14 : decode cX12_tries 14 = .ok (.istore 4, 2) := by decide +kernel
theorem dX12_tries_16 : decode cX12_tries 16 = .ok (.iload 4, 2) := by decide +kernel
theorem dX12_tries_18 : decode cX12_tries 18 = .ok (.iload_n 2, 1) := by decide +kernel
theorem dX12_tries_19 : decode cX12_tries 19 = .ok (.if_icmp .ge 58, 3) := by decide +kernel
theorem dX12_tries_22 : decode cX12_tries 22 = .ok (.iload_n 3, 1) := by decide +kernel
theorem dX12_tries_23 : decode cX12_tries 23 = .ok (.aload_n 0, 1) := by decide +kernel
theorem dX12_tries_24 : decode cX12_tries 24 = .ok (.getfield 183, 3) := by decide +kernel
theorem dX12_tries_27 : decode cX12_tries 27 = .ok (.idiv, 1) := by decide +kernel
theorem dX12_tries_28 : decode cX12_tries 28 = .ok (.istore_n 3, 1) := by decide +kernel
theorem dX12_tries_29 : decode cX12_tries 29 = .ok (.aload_n 0, 1) := by decide +kernel
theorem dX12_tries_30 : decode cX12_tries 30 = .ok (.getfield 41, 3) := by decide +kernel
theorem dX12_tries_33 : decode cX12_tries 33 = .ok (.iload 4, 2) := by decide +kernel
theorem dX12_tries_35 : decode cX12_tries 35 = .ok (.aload_n 0, 1) := by decide +kernel
theorem dX12_tries_36 : decode cX12_tries 36 = .ok (.getfield 54, 3) := by decide +kernel
theorem dX12_tries_39 : decode cX12_tries 39 = .ok (.iload_n 1, 1) := by decide +kernel
theorem dX12_tries_40 : decode cX12_tries 40 = .ok (.iload_n 3, 1) := by decide +kernel
theorem dX12_tries_41 : decode cX12_tries 41 = .ok (.idiv, 1) := by decide +kernel
theorem dX12_tries_42 : decode cX12_tries 42 = .ok (.aload_n 0, 1) := by decide +kernel
theorem dX12_tries_43 : decode cX12_tries 43 = .ok (.getfield 183, 3) := by decide +kernel
theorem dX12_tries_46 : decode cX12_tries 46 = .ok (.irem, 1) := by decide +kernel
theorem dX12_tries_47 : decode cX12_tries 47 = .ok (.iaload, 1) := by decide +kernel
theorem dX12_tries_48 : decode cX12_tries 48 = .ok (.iastore, 1) := by decide +kernel
theorem dX12_tries_49 : decode cX12_tries 49 = .ok (.aload_n 0, 1) := by decide +kernel
theorem dX12_tries_50 : decode cX12_tries 50 = .ok (.getfield 25, 3) := by decide +kernel
theorem dX12_tries_53 : decode cX12_tries 53 = .ok (.aload_n 0, 1) := by decide +kernel
theorem dX12_tries_54 : decode cX12_tries 54 = .ok (.getfield 41, 3) := by decide +kernel
theorem dX12_tries_57 : decode cX12_tries 57 = .ok (.iload 4, 2) := by decide +kernel
theorem dX12_tries_59 : decode cX12_tries 59 = .ok (.iaload, 1) := by decide +kernel
theorem dX12_tries_60 : decode cX12_tries 60 = .ok (.invokestatic 164, 3) := by decide +kernel
theorem dX12_tries_63 : decode cX12_tries 63 = .ok (.aload_n 0, 1) := by decide +kernel
theorem dX12_tries_64 : decode cX12_tries 64 = .ok (.aload_n 0, 1) := by decide +kernel
theorem dX12_tries_65 : decode cX12_tries 65 = .ok (.getfield 25, 3) := by decide +kernel
theorem dX12_tries_68 : decode cX12_tries 68 = .ok (.invokevirtual 168, 3) := by decide +kernel
theorem dX12_tries_71 : decode cX12_tries 71 = .ok (.iinc 4 1, 3) := by decide +kernel
theorem dX12_tries_74 : decode cX12_tries 74 = .ok (.goto (-58), 3) := by decide +kernel
theorem dX12_tries_77 : decode cX12_tries 77 = .ok (.return_, 1) := by decide +kernel
theorem dX12_plans_0 : decode cX12_plans 0 = .ok (.aload_n 0, 1) := by decide +kernel
theorem dX12_plans_1 : decode cX12_plans 1 = .ok (.invokevirtual 192, 3) := by decide +kernel
theorem dX12_plans_4 : decode cX12_plans 4 = .ok (.aload_n 0, 1) := by decide +kernel
theorem dX12_plans_5 : decode cX12_plans 5 = .ok (.getfield 183, 3) := by decide +kernel
theorem dX12_plans_8 : decode cX12_plans 8 = .ok (.iload_n 1, 1) := by decide +kernel
theorem dX12_plans_9 : decode cX12_plans 9 = .ok (.invokestatic 186, 3) := by decide +kernel
theorem dX12_plans_12 : decode cX12_plans 12 = .ok (.istore_n 2, 1) := by decide +kernel
theorem dX12_plans_13 : decode cX12_plans 13 = .ok (.iconst 0, 1) := by decide +kernel
theorem dX12_plans_14 : decode cX12_plans 14 = .ok (.istore_n 3, 1) := by decide +kernel
theorem dX12_plans_15 : decode cX12_plans 15 = .ok (.iload_n 3, 1) := by decide +kernel
theorem dX12_plans_16 : decode cX12_plans 16 = .ok (.iload_n 2, 1) := by decide +kernel
theorem dX12_plans_17 : decode cX12_plans 17 = .ok (.if_icmp .ge 166, 3) := by decide +kernel
theorem dX12_plans_20 : decode cX12_plans 20 = .ok (.aload_n 0, 1) := by decide +kernel
theorem dX12_plans_21 : decode cX12_plans 21 = .ok (.iload_n 3, 1) := by decide +kernel
theorem dX12_plans_22 : decode cX12_plans 22 = .ok (.iload_n 1, 1) := by decide +kernel
theorem dX12_plans_23 : decode cX12_plans 23 = .ok (.invokevirtual 195, 3) := by decide +kernel
theorem dX12_plans_26 : decode cX12_plans 26 = .ok (.aload_n 0, 1) := by decide +kernel
theorem dX12_plans_27 : decode cX12_plans 27 = .ok (.getfield 25, 3) := by decide +kernel
theorem dX12_plans_30 : decode cX12_plans 30 = .ok (.iconst 3, 1) := by decide +kernel
theorem dX12_plans_31 : decode cX12_plans 31 = .ok (.iaload, 1) := by decide +kernel
theorem dX12_plans_32 : decode cX12_plans 32 = .ok (.aload_n 0, 1) := by decide +kernel
theorem dX12_plans_33 : decode cX12_plans 33 = .ok (.getfield 22, 3) := by decide +kernel
theorem dX12_plans_36 : decode cX12_plans 36 = .ok (.iconst 3, 1) := by decide +kernel
theorem dX12_plans_37 : decode cX12_plans 37 = .ok (.iaload, 1) := by decide +kernel
theorem dX12_plans_38 : decode cX12_plans 38 = .ok (.isub, 1) := by decide +kernel
theorem dX12_plans_39 : decode cX12_plans 39 = .ok (.istore 4, 2) := by decide +kernel
theorem dX12_plans_41 : decode cX12_plans 41 = .ok (.aload_n 0, 1) := by decide +kernel
theorem dX12_plans_42 : decode cX12_plans 42 = .ok (.aload_n 0, 1) := by decide +kernel
theorem dX12_plans_43 : decode cX12_plans 43 = .ok (.getfield 25, 3) := by decide +kernel
theorem dX12_plans_46 : decode cX12_plans 46 = .ok (.invokevirtual 172, 3) := by decide +kernel
theorem dX12_plans_49 : decode cX12_plans 49 = .ok (.invokestatic 155, 3) := by decide +kernel
theorem dX12_plans_52 : decode cX12_plans 52 = .ok (.istore 5, 2) := by decide +kernel
theorem dX12_plans_54 : decode cX12_plans 54 = .ok (.aload_n 0, 1) := by decide +kernel
theorem dX12_plans_55 : decode cX12_plans 55 = .ok (.getfield 25, 3) := by decide +kernel
theorem dX12_plans_58 : decode cX12_plans 58 = .ok (.iconst 2, 1) := by decide +kernel
theorem dX12_plans_59 : decode cX12_plans 59 = .ok (.iaload, 1) := by decide +kernel
theorem dX12_plans_60 : decode cX12_plans 60 = .ok (.aload_n 0, 1) := by decide +kernel
theorem dX12_plans_61 : decode cX12_plans 61 = .ok (.getfield 22, 3) := by decide +kernel
theorem dX12_plans_64 : decode cX12_plans 64 = .ok (.iconst 2, 1) := by decide +kernel
theorem dX12_plans_65 : decode cX12_plans 65 = .ok (.iaload, 1) := by decide +kernel
theorem dX12_plans_66 : decode cX12_plans 66 = .ok (.isub, 1) := by decide +kernel
theorem dX12_plans_67 : decode cX12_plans 67 = .ok (.istore 6, 2) := by decide +kernel
theorem dX12_plans_69 : decode cX12_plans 69 = .ok (.iload 4, 2) := by decide +kernel
theorem dX12_plans_71 : decode cX12_plans 71 = .ok (.aload_n 0, 1) := by decide +kernel
theorem dX12_plans_72 : decode cX12_plans 72 = .ok (.getfield 199, 3) := by decide +kernel
theorem dX12_plans_75 : decode cX12_plans 75 = .ok (.if_icmp .lt 39, 3) := by decide +kernel
theorem dX12_plans_78 : decode cX12_plans 78 = .ok (.iload 4, 2) := by decide +kernel
theorem dX12_plans_80 : decode cX12_plans 80 = .ok (.aload_n 0, 1) := by decide +kernel
theorem dX12_plans_81 : decode cX12_plans 81 = .ok (.getfield 199, 3) := by decide +kernel
theorem dX12_plans_84 : decode cX12_plans 84 = .ok (.if_icmp .ne 34, 3) := by decide +kernel
theorem dX12_plans_87 : decode cX12_plans 87 = .ok (.iload 5, 2) := by decide +kernel
theorem dX12_plans_89 : decode cX12_plans 89 = .ok (.aload_n 0, 1) := by decide +kernel
theorem dX12_plans_90 : decode cX12_plans 90 = .ok (.getfield 202, 3) := by decide +kernel
theorem dX12_plans_93 : decode cX12_plans 93 = .ok (.if_icmp .lt 21, 3) := by decide +kernel
theorem dX12_plans_96 : decode cX12_plans 96 = .ok (.iload 5, 2) := by decide +kernel
theorem dX12_plans_98 : decode cX12_plans 98 = .ok (.aload_n 0, 1) := by decide +kernel
theorem dX12_plans_99 : decode cX12_plans 99 = .ok (.getfield 202, 3) := by decide +kernel
theorem dX12_plans_102 : decode cX12_plans 102 = .ok (.if_icmp .ne 16, 3) := by decide +kernel
theorem dX12_plans_105 : decode cX12_plans 105 = .ok (.iload 6, 2) := by decide +kernel
theorem dX12_plans_107 : decode cX12_plans 107 = .ok (.aload_n 0, 1) := by decide +kernel
theorem dX12_plans_108 : decode cX12_plans 108 = .ok (.getfield 205, 3) := by decide +kernel
theorem dX12_plans_111 : decode cX12_plans 111 = .ok (.if_icmp .ge 7, 3) := by decide +kernel
theorem dX12_plans_114 : decode cX12_plans 114 = .ok (.iconst 1, 1) := by decide +kernel
theorem dX12_plans_115 : decode cX12_plans 115 = .ok (.goto 4, 3) := by decide +kernel
theorem dX12_plans_118 : decode cX12_plans 118 = .ok (.iconst 0, 1) := by decide +kernel
theorem dX12_plans_119 : decode cX12_plans 119 = .ok (.istore 7, 2) := by decide +kernel
theorem dX12_plans_121 : decode cX12_plans 121 = .ok (.iload_n 3, 1) := by decide +kernel
theorem dX12_plans_122 : decode cX12_plans 122 = .ok (.ifCond .eq 8, 3) := by decide +kernel
theorem dX12_plans_125 : decode cX12_plans 125 = .ok (.iload 7, 2) := by decide +kernel
theorem dX12_plans_127 : decode cX12_plans 127 = .ok (.ifCond .eq 50, 3) := by decide +kernel
theorem dX12_plans_130 : decode cX12_plans 130 = .ok (.aload_n 0, 1) := by decide +kernel
theorem dX12_plans_131 : decode cX12_plans 131 = .ok (.iload 4, 2) := by decide +kernel
theorem dX12_plans_133 : decode cX12_plans 133 = .ok (.putfield 199, 3) := by decide +kernel
theorem dX12_plans_136 : decode cX12_plans 136 = .ok (.aload_n 0, 1) := by decide +kernel
theorem dX12_plans_137 : decode cX12_plans 137 = .ok (.iload 5, 2) := by decide +kernel
theorem dX12_plans_139 : decode cX12_plans 139 = .ok (.putfield 202, 3) := by decide +kernel
theorem dX12_plans_142 : decode cX12_plans 142 = .ok (.aload_n 0, 1) := by decide +kernel
theorem dX12_plans_143 : decode cX12_plans 143 = .ok (.iload 6, 2) := by decide +kernel
theorem dX12_plans_145 : decode cX12_plans 145 = .ok (.putfield 205, 3) := by decide +kernel
theorem dX12_plans_148 : decode cX12_plans 148 = .ok (.iconst 0, 1) := by decide +kernel
theorem dX12_plans_149 : decode cX12_plans 149 = .ok (.istore 8, 2) := by decide +kernel
theorem dX12_plans_151 : decode cX12_plans 151 = .ok (.iload 8, 2) := by decide +kernel
theorem dX12_plans_153 : decode cX12_plans 153 = .ok (.iload_n 1, 1) := by decide +kernel
theorem dX12_plans_154 : decode cX12_plans 154 = .ok (.if_icmp .ge 23, 3) := by decide +kernel
theorem dX12_plans_157 : decode cX12_plans 157 = .ok (.aload_n 0, 1) := by decide +kernel
theorem dX12_plans_158 : decode cX12_plans 158 = .ok (.getfield 44, 3) := by decide +kernel
theorem dX12_plans_161 : decode cX12_plans 161 = .ok (.iload 8, 2) := by decide +kernel
theorem dX12_plans_163 : decode cX12_plans 163 = .ok (.aload_n 0, 1) := by decide +kernel
theorem dX12_plans_164 : decode cX12_plans 164 = .ok (.getfield 41, 3) := by decide +kernel
theorem dX12_plans_167 : decode cX12_plans 167 = .ok (.iload 8, 2) := by decide +kernel
theorem dX12_plans_169 : decode cX12_plans 169 = .ok (.iaload, 1) := by decide +kernel
theorem dX12_plans_170 : decode cX12_plans 170 = .ok (.iastore, 1) := by decide +kernel
theorem dX12_plans_171 : decode cX12_plans 171 = .ok (.iinc 8 1, 3) := by decide +kernel
theorem dX12_plans_174 : decode cX12_plans 174 = .ok (.goto (-23), 3) := by decide +kernel
theorem dX12_plans_177 : decode cX12_plans 177 = .ok (.iinc 3 1, 3) := by decide +kernel
theorem dX12_plans_180 : decode cX12_plans 180 = .ok (.goto (-165), 3) := by decide +kernel
theorem dX12_plans_183 : decode cX12_plans 183 = .ok (.return_, 1) := by decide +kernel
theorem dX12_plan_0 : decode cX12_plan 0 = .ok (.aload_n 0, 1) := by decide +kernel
theorem dX12_plan_1 : decode cX12_plan 1 = .ok (.iconst 0, 1) := by decide +kernel
theorem dX12_plan_2 : decode cX12_plan 2 = .ok (.putfield 61, 3) := by decide +kernel
theorem dX12_plan_5 : decode cX12_plan 5 = .ok (.iload_n 1, 1) := by decide +kernel
theorem dX12_plan_6 : decode cX12_plan 6 = .ok (.iconst 0, 1) := by decide +kernel
theorem dX12_plan_7 : decode cX12_plan 7 = .ok (.iconst 4, 1) := by decide +kernel
theorem dX12_plan_8 : decode cX12_plan 8 = .ok (.invokestatic 64, 3) := by decide +kernel
theorem dX12_plan_11 : decode cX12_plan 11 = .ok (.ifCond .eq 13, 3) := by decide +kernel
theorem dX12_plan_14 : decode cX12_plan 14 = .ok (.iload_n 2, 1) := by decide +kernel
theorem dX12_plan_15 : decode cX12_plan 15 = .ok (.iconst 0, 1) := by decide +kernel
theorem dX12_plan_16 : decode cX12_plan 16 = .ok (.bipush 6, 2) := by decide +kernel
theorem dX12_plan_18 : decode cX12_plan 18 = .ok (.invokestatic 64, 3) := by decide +kernel
theorem dX12_plan_21 : decode cX12_plan 21 = .ok (.ifCond .ne 5, 3) := by decide +kernel
theorem dX12_plan_24 : decode cX12_plan 24 = .ok (.iconst (-1), 1) := by decide +kernel
theorem dX12_plan_25 : decode cX12_plan 25 = .ok (.ireturn, 1) := by decide +kernel
theorem dX12_plan_26 : decode cX12_plan 26 = .ok (.aload_n 0, 1) := by decide +kernel
theorem dX12_plan_27 : decode cX12_plan 27 = .ok (.iload_n 1, 1) := by decide +kernel
theorem dX12_plan_28 : decode cX12_plan 28 = .ok (.invokevirtual 208, 3) := by decide +kernel
theorem dX12_plan_31 : decode cX12_plan 31 = .ok (.iload_n 2, 1) := by decide +kernel
theorem dX12_plan_32 : decode cX12_plan 32 = .ok (.iconst 4, 1) := by decide +kernel
theorem dX12_plan_33 : decode cX12_plan 33 = .ok (.if_icmp .ge 20, 3) := by decide +kernel
theorem dX12_plan_36 : decode cX12_plan 36 = .ok (.iload_n 2, 1) := by decide +kernel
theorem dX12_plan_37 : decode cX12_plan 37 = .ok (.iload_n 1, 1) := by decide +kernel
theorem dX12_plan_38 : decode cX12_plan 38 = .ok (.if_icmp .ge 12, 3) := by decide +kernel
theorem dX12_plan_41 : decode cX12_plan 41 = .ok (.aload_n 0, 1) := by decide +kernel
theorem dX12_plan_42 : decode cX12_plan 42 = .ok (.getfield 44, 3) := by decide +kernel
theorem dX12_plan_45 : decode cX12_plan 45 = .ok (.iload_n 2, 1) := by decide +kernel
theorem dX12_plan_46 : decode cX12_plan 46 = .ok (.iaload, 1) := by decide +kernel
theorem dX12_plan_47 : decode cX12_plan 47 = .ok (.goto 5, 3) := by decide +kernel
theorem dX12_plan_50 : decode cX12_plan 50 = .ok (.bipush (-5), 2) := by decide +kernel
theorem dX12_plan_52 : decode cX12_plan 52 = .ok (.ireturn, 1) := by decide +kernel
theorem dX12_plan_53 : decode cX12_plan 53 = .ok (.iload_n 2, 1) := by decide +kernel
theorem dX12_plan_54 : decode cX12_plan 54 = .ok (.iconst 4, 1) := by decide +kernel
theorem dX12_plan_55 : decode cX12_plan 55 = .ok (.if_icmp .ne 10, 3) := by decide +kernel
theorem dX12_plan_58 : decode cX12_plan 58 = .ok (.aload_n 0, 1) := by decide +kernel
theorem dX12_plan_59 : decode cX12_plan 59 = .ok (.getfield 199, 3) := by decide +kernel
theorem dX12_plan_62 : decode cX12_plan 62 = .ok (.goto 19, 3) := by decide +kernel
theorem dX12_plan_65 : decode cX12_plan 65 = .ok (.iload_n 2, 1) := by decide +kernel
theorem dX12_plan_66 : decode cX12_plan 66 = .ok (.iconst 5, 1) := by decide +kernel
theorem dX12_plan_67 : decode cX12_plan 67 = .ok (.if_icmp .ne 10, 3) := by decide +kernel
theorem dX12_plan_70 : decode cX12_plan 70 = .ok (.aload_n 0, 1) := by decide +kernel
theorem dX12_plan_71 : decode cX12_plan 71 = .ok (.getfield 202, 3) := by decide +kernel
theorem dX12_plan_74 : decode cX12_plan 74 = .ok (.goto 7, 3) := by decide +kernel
theorem dX12_plan_77 : decode cX12_plan 77 = .ok (.aload_n 0, 1) := by decide +kernel
theorem dX12_plan_78 : decode cX12_plan 78 = .ok (.getfield 205, 3) := by decide +kernel
theorem dX12_plan_81 : decode cX12_plan 81 = .ok (.ireturn, 1) := by decide +kernel
theorem dX12_fullBy_0 : decode cX12_fullBy 0 = .ok (.aload_n 0, 1) := by decide +kernel
theorem dX12_fullBy_1 : decode cX12_fullBy 1 = .ok (.iconst 0, 1) := by decide +kernel
theorem dX12_fullBy_2 : decode cX12_fullBy 2 = .ok (.putfield 61, 3) := by decide +kernel
theorem dX12_fullBy_5 : decode cX12_fullBy 5 = .ok (.aload_n 0, 1) := by decide +kernel
theorem dX12_fullBy_6 : decode cX12_fullBy 6 = .ok (.iload_n 1, 1) := by decide +kernel
theorem dX12_fullBy_7 : decode cX12_fullBy 7 = .ok (.invokevirtual 142, 3) := by decide +kernel
theorem dX12_fullBy_10 : decode cX12_fullBy 10 = .ok (.ifCond .eq 13, 3) := by decide +kernel
theorem dX12_fullBy_13 : decode cX12_fullBy 13 = .ok (.iload_n 2, 1) := by decide +kernel
theorem dX12_fullBy_14 : decode cX12_fullBy 14 = .ok (.iconst 0, 1) := by decide +kernel
theorem dX12_fullBy_15 : decode cX12_fullBy 15 = .ok (.bipush 100, 2) := by decide +kernel
theorem dX12_fullBy_17 : decode cX12_fullBy 17 = .ok (.invokestatic 64, 3) := by decide +kernel
theorem dX12_fullBy_20 : decode cX12_fullBy 20 = .ok (.ifCond .ne 5, 3) := by decide +kernel
theorem dX12_fullBy_23 : decode cX12_fullBy 23 = .ok (.iconst (-1), 1) := by decide +kernel
theorem dX12_fullBy_24 : decode cX12_fullBy 24 = .ok (.ireturn, 1) := by decide +kernel
theorem dX12_fullBy_25 : decode cX12_fullBy 25 = .ok (.aload_n 0, 1) := by decide +kernel
theorem dX12_fullBy_26 : decode cX12_fullBy 26 = .ok (.invokevirtual 189, 3) := by decide +kernel
theorem dX12_fullBy_29 : decode cX12_fullBy 29 = .ok (.aload_n 0, 1) := by decide +kernel
theorem dX12_fullBy_30 : decode cX12_fullBy 30 = .ok (.getfield 25, 3) := by decide +kernel
theorem dX12_fullBy_33 : decode cX12_fullBy 33 = .ok (.iconst 1, 1) := by decide +kernel
theorem dX12_fullBy_34 : decode cX12_fullBy 34 = .ok (.iconst 1, 1) := by decide +kernel
theorem dX12_fullBy_35 : decode cX12_fullBy 35 = .ok (.iload_n 1, 1) := by decide +kernel
theorem dX12_fullBy_36 : decode cX12_fullBy 36 = .ok (.ishl, 1) := by decide +kernel
theorem dX12_fullBy_37 : decode cX12_fullBy 37 = .ok (.iastore, 1) := by decide +kernel
theorem dX12_fullBy_38 : decode cX12_fullBy 38 = .ok (.iconst 0, 1) := by decide +kernel
theorem dX12_fullBy_39 : decode cX12_fullBy 39 = .ok (.istore_n 3, 1) := by decide +kernel
theorem dX12_fullBy_40 : decode cX12_fullBy 40 = .ok (.iload_n 3, 1) := by decide +kernel
theorem dX12_fullBy_41 : decode cX12_fullBy 41 = .ok (.bipush 61, 2) := by decide +kernel
theorem dX12_fullBy_43 : decode cX12_fullBy 43 = .ok (.if_icmp .ge 31, 3) := by decide +kernel
theorem dX12_fullBy_46 : decode cX12_fullBy 46 = .ok (.aload_n 0, 1) := by decide +kernel
theorem dX12_fullBy_47 : decode cX12_fullBy 47 = .ok (.getfield 25, 3) := by decide +kernel
theorem dX12_fullBy_50 : decode cX12_fullBy 50 = .ok (.iconst 4, 1) := by decide +kernel
theorem dX12_fullBy_51 : decode cX12_fullBy 51 = .ok (.iload_n 1, 1) := by decide +kernel
theorem dX12_fullBy_52 : decode cX12_fullBy 52 = .ok (.iadd, 1) := by decide +kernel
theorem dX12_fullBy_53 : decode cX12_fullBy 53 = .ok (.iaload, 1) := by decide +kernel
theorem dX12_fullBy_54 : decode cX12_fullBy 54 = .ok (.iload_n 2, 1) := by decide +kernel
theorem dX12_fullBy_55 : decode cX12_fullBy 55 = .ok (.if_icmp .lt 5, 3) := by decide +kernel
theorem dX12_fullBy_58 : decode cX12_fullBy 58 = .ok (.iload_n 3, 1) := by decide +kernel
theorem dX12_fullBy_59 : decode cX12_fullBy 59 = .ok (.ireturn, 1) := by decide +kernel
theorem dX12_fullBy_60 : decode cX12_fullBy 60 = .ok (.aload_n 0, 1) := by decide +kernel
theorem dX12_fullBy_61 : decode cX12_fullBy 61 = .ok (.aload_n 0, 1) := by decide +kernel
theorem dX12_fullBy_62 : decode cX12_fullBy 62 = .ok (.getfield 25, 3) := by decide +kernel
theorem dX12_fullBy_65 : decode cX12_fullBy 65 = .ok (.invokevirtual 168, 3) := by decide +kernel
theorem dX12_fullBy_68 : decode cX12_fullBy 68 = .ok (.iinc 3 1, 3) := by decide +kernel
theorem dX12_fullBy_71 : decode cX12_fullBy 71 = .ok (.goto (-31), 3) := by decide +kernel
theorem dX12_fullBy_74 : decode cX12_fullBy 74 = .ok (.bipush (-9), 2) := by decide +kernel
theorem dX12_fullBy_76 : decode cX12_fullBy 76 = .ok (.ireturn, 1) := by decide +kernel
theorem dX12_missedBy_0 : decode cX12_missedBy 0 = .ok (.iconst 0, 1) := by decide +kernel
theorem dX12_missedBy_1 : decode cX12_missedBy 1 = .ok (.istore_n 3, 1) := by decide +kernel
theorem dX12_missedBy_2 : decode cX12_missedBy 2 = .ok (.iconst 0, 1) := by decide +kernel
theorem dX12_missedBy_3 : decode cX12_missedBy 3 = .ok (.istore 4, 2) := by decide +kernel
theorem dX12_missedBy_5 : decode cX12_missedBy 5 = .ok (.iload 4, 2) := by decide +kernel
theorem dX12_missedBy_7 : decode cX12_missedBy 7 = .ok (.aload_n 0, 1) := by decide +kernel
theorem dX12_missedBy_8 : decode cX12_missedBy 8 = .ok (.getfield 130, 3) := by decide +kernel
theorem dX12_missedBy_11 : decode cX12_missedBy 11 = .ok (.if_icmp .ge 132, 3) := by decide +kernel
theorem dX12_missedBy_14 : decode cX12_missedBy 14 = .ok (.aload_n 0, 1) := by decide +kernel
theorem dX12_missedBy_15 : decode cX12_missedBy 15 = .ok (.getfield 16, 3) := by decide +kernel
theorem dX12_missedBy_18 : decode cX12_missedBy 18 = .ok (.iconst 3, 1) := by decide +kernel
theorem dX12_missedBy_19 : decode cX12_missedBy 19 = .ok (.iload 4, 2) := by decide +kernel
theorem dX12_missedBy_21 : decode cX12_missedBy 21 = .ok (.imul, 1) := by decide +kernel
theorem dX12_missedBy_22 : decode cX12_missedBy 22 = .ok (.iaload, 1) := by decide +kernel
theorem dX12_missedBy_23 : decode cX12_missedBy 23 = .ok (.iload_n 1, 1) := by decide +kernel
theorem dX12_missedBy_24 : decode cX12_missedBy 24 = .ok (.if_icmp .ne 22, 3) := by decide +kernel
theorem dX12_missedBy_27 : decode cX12_missedBy 27 = .ok (.aload_n 0, 1) := by decide +kernel
theorem dX12_missedBy_28 : decode cX12_missedBy 28 = .ok (.getfield 16, 3) := by decide +kernel
theorem dX12_missedBy_31 : decode cX12_missedBy 31 = .ok (.iconst 3, 1) := by decide +kernel
theorem dX12_missedBy_32 : decode cX12_missedBy 32 = .ok (.iload 4, 2) := by decide +kernel
theorem dX12_missedBy_34 : decode cX12_missedBy 34 = .ok (.imul, 1) := by decide +kernel
theorem dX12_missedBy_35 : decode cX12_missedBy 35 = .ok (.iconst 1, 1) := by decide +kernel
theorem dX12_missedBy_36 : decode cX12_missedBy 36 = .ok (.iadd, 1) := by decide +kernel
theorem dX12_missedBy_37 : decode cX12_missedBy 37 = .ok (.iaload, 1) := by decide +kernel
theorem dX12_missedBy_38 : decode cX12_missedBy 38 = .ok (.iload_n 2, 1) := by decide +kernel
theorem dX12_missedBy_39 : decode cX12_missedBy 39 = .ok (.if_icmp .ne 7, 3) := by decide +kernel
theorem dX12_missedBy_42 : decode cX12_missedBy 42 = .ok (.iconst 1, 1) := by decide +kernel
theorem dX12_missedBy_43 : decode cX12_missedBy 43 = .ok (.goto 4, 3) := by decide +kernel
theorem dX12_missedBy_46 : decode cX12_missedBy 46 = .ok (.iconst 0, 1) := by decide +kernel
theorem dX12_missedBy_47 : decode cX12_missedBy 47 = .ok (.istore 5, 2) := by decide +kernel
theorem dX12_missedBy_49 : decode cX12_missedBy 49 = .ok (.iload_n 3, 1) := by decide +kernel
theorem dX12_missedBy_50 : decode cX12_missedBy 50 = .ok (.iload 5, 2) := by decide +kernel
theorem dX12_missedBy_52 : decode cX12_missedBy 52 = .ok (.ifCond .eq 29, 3) := by decide +kernel
theorem dX12_missedBy_55 : decode cX12_missedBy 55 = .ok (.aload_n 0, 1) := by decide +kernel
theorem dX12_missedBy_56 : decode cX12_missedBy 56 = .ok (.getfield 25, 3) := by decide +kernel
theorem dX12_missedBy_59 : decode cX12_missedBy 59 = .ok (.iconst 4, 1) := by decide +kernel
theorem dX12_missedBy_60 : decode cX12_missedBy 60 = .ok (.iload_n 1, 1) := by decide +kernel
theorem dX12_missedBy_61 : decode cX12_missedBy 61 = .ok (.iadd, 1) := by decide +kernel
theorem dX12_missedBy_62 : decode cX12_missedBy 62 = .ok (.iaload, 1) := by decide +kernel
theorem dX12_missedBy_63 : decode cX12_missedBy 63 = .ok (.aload_n 0, 1) := by decide +kernel
theorem dX12_missedBy_64 : decode cX12_missedBy 64 = .ok (.getfield 16, 3) := by decide +kernel
theorem dX12_missedBy_67 : decode cX12_missedBy 67 = .ok (.iconst 3, 1) := by decide +kernel
theorem dX12_missedBy_68 : decode cX12_missedBy 68 = .ok (.iload 4, 2) := by decide +kernel
theorem dX12_missedBy_70 : decode cX12_missedBy 70 = .ok (.imul, 1) := by decide +kernel
theorem dX12_missedBy_71 : decode cX12_missedBy 71 = .ok (.iconst 2, 1) := by decide +kernel
theorem dX12_missedBy_72 : decode cX12_missedBy 72 = .ok (.iadd, 1) := by decide +kernel
theorem dX12_missedBy_73 : decode cX12_missedBy 73 = .ok (.iaload, 1) := by decide +kernel
theorem dX12_missedBy_74 : decode cX12_missedBy 74 = .ok (.if_icmp .ge 7, 3) := by decide +kernel
theorem dX12_missedBy_77 : decode cX12_missedBy 77 = .ok (.iconst 1, 1) := by decide +kernel
theorem dX12_missedBy_78 : decode cX12_missedBy 78 = .ok (.goto 4, 3) := by decide +kernel
theorem dX12_missedBy_81 : decode cX12_missedBy 81 = .ok (.iconst 0, 1) := by decide +kernel
theorem dX12_missedBy_82 : decode cX12_missedBy 82 = .ok (.iadd, 1) := by decide +kernel
theorem dX12_missedBy_83 : decode cX12_missedBy 83 = .ok (.istore_n 3, 1) := by decide +kernel
theorem dX12_missedBy_84 : decode cX12_missedBy 84 = .ok (.aload_n 0, 1) := by decide +kernel
theorem dX12_missedBy_85 : decode cX12_missedBy 85 = .ok (.getfield 25, 3) := by decide +kernel
theorem dX12_missedBy_88 : decode cX12_missedBy 88 = .ok (.iconst 4, 1) := by decide +kernel
theorem dX12_missedBy_89 : decode cX12_missedBy 89 = .ok (.iload_n 1, 1) := by decide +kernel
theorem dX12_missedBy_90 : decode cX12_missedBy 90 = .ok (.iadd, 1) := by decide +kernel
theorem dX12_missedBy_91 : decode cX12_missedBy 91 = .ok (.dup2, 1) := by decide +kernel
theorem dX12_missedBy_92 : decode cX12_missedBy 92 = .ok (.iaload, 1) := by decide +kernel
theorem dX12_missedBy_93 : decode cX12_missedBy 93 = .ok (.iload 5, 2) := by decide +kernel
theorem dX12_missedBy_95 : decode cX12_missedBy 95 = .ok (.ifCond .eq 39, 3) := by decide +kernel
theorem dX12_missedBy_98 : decode cX12_missedBy 98 = .ok (.aload_n 0, 1) := by decide +kernel
theorem dX12_missedBy_99 : decode cX12_missedBy 99 = .ok (.getfield 25, 3) := by decide +kernel
theorem dX12_missedBy_102 : decode cX12_missedBy 102 = .ok (.iconst 4, 1) := by decide +kernel
theorem dX12_missedBy_103 : decode cX12_missedBy 103 = .ok (.iload_n 1, 1) := by decide +kernel
theorem dX12_missedBy_104 : decode cX12_missedBy 104 = .ok (.iadd, 1) := by decide +kernel
theorem dX12_missedBy_105 : decode cX12_missedBy 105 = .ok (.iaload, 1) := by decide +kernel
theorem dX12_missedBy_106 : decode cX12_missedBy 106 = .ok (.aload_n 0, 1) := by decide +kernel
theorem dX12_missedBy_107 : decode cX12_missedBy 107 = .ok (.getfield 16, 3) := by decide +kernel
theorem dX12_missedBy_110 : decode cX12_missedBy 110 = .ok (.iconst 3, 1) := by decide +kernel
theorem dX12_missedBy_111 : decode cX12_missedBy 111 = .ok (.iload 4, 2) := by decide +kernel
theorem dX12_missedBy_113 : decode cX12_missedBy 113 = .ok (.imul, 1) := by decide +kernel
theorem dX12_missedBy_114 : decode cX12_missedBy 114 = .ok (.iconst 2, 1) := by decide +kernel
theorem dX12_missedBy_115 : decode cX12_missedBy 115 = .ok (.iadd, 1) := by decide +kernel
theorem dX12_missedBy_116 : decode cX12_missedBy 116 = .ok (.iaload, 1) := by decide +kernel
theorem dX12_missedBy_117 : decode cX12_missedBy 117 = .ok (.if_icmp .lt 17, 3) := by decide +kernel
theorem dX12_missedBy_120 : decode cX12_missedBy 120 = .ok (.aload_n 0, 1) := by decide +kernel
theorem dX12_missedBy_121 : decode cX12_missedBy 121 = .ok (.getfield 16, 3) := by decide +kernel
theorem dX12_missedBy_124 : decode cX12_missedBy 124 = .ok (.iconst 3, 1) := by decide +kernel
theorem dX12_missedBy_125 : decode cX12_missedBy 125 = .ok (.iload 4, 2) := by decide +kernel
theorem dX12_missedBy_127 : decode cX12_missedBy 127 = .ok (.imul, 1) := by decide +kernel
theorem dX12_missedBy_128 : decode cX12_missedBy 128 = .ok (.iconst 2, 1) := by decide +kernel
theorem dX12_missedBy_129 : decode cX12_missedBy 129 = .ok (.iadd, 1) := by decide +kernel
theorem dX12_missedBy_130 : decode cX12_missedBy 130 = .ok (.iaload, 1) := by decide +kernel
theorem dX12_missedBy_131 : decode cX12_missedBy 131 = .ok (.goto 4, 3) := by decide +kernel
theorem dX12_missedBy_134 : decode cX12_missedBy 134 = .ok (.iconst 0, 1) := by decide +kernel
theorem dX12_missedBy_135 : decode cX12_missedBy 135 = .ok (.isub, 1) := by decide +kernel
theorem dX12_missedBy_136 : decode cX12_missedBy 136 = .ok (.iastore, 1) := by decide +kernel
theorem dX12_missedBy_137 : decode cX12_missedBy 137 = .ok (.iinc 4 1, 3) := by decide +kernel
theorem dX12_missedBy_140 : decode cX12_missedBy 140 = .ok (.goto (-135), 3) := by decide +kernel
theorem dX12_missedBy_143 : decode cX12_missedBy 143 = .ok (.iload_n 3, 1) := by decide +kernel
theorem dX12_missedBy_144 : decode cX12_missedBy 144 = .ok (.ireturn, 1) := by decide +kernel
theorem dX12_isHeard_0 : decode cX12_isHeard 0 = .ok (.aload_n 0, 1) := by decide +kernel
theorem dX12_isHeard_1 : decode cX12_isHeard 1 = .ok (.invokevirtual 189, 3) := by decide +kernel
theorem dX12_isHeard_4 : decode cX12_isHeard 4 = .ok (.iconst 0, 1) := by decide +kernel
theorem dX12_isHeard_5 : decode cX12_isHeard 5 = .ok (.istore 4, 2) := by decide +kernel
theorem dX12_isHeard_7 : decode cX12_isHeard 7 = .ok (.aload_n 0, 1) := by decide +kernel
theorem dX12_isHeard_8 : decode cX12_isHeard 8 = .ok (.getfield 22, 3) := by decide +kernel
theorem dX12_isHeard_11 : decode cX12_isHeard 11 = .ok (.iconst 0, 1) := by decide +kernel
theorem dX12_isHeard_12 : decode cX12_isHeard 12 = .ok (.iaload, 1) := by decide +kernel
theorem dX12_isHeard_13 : decode cX12_isHeard 13 = .ok (.istore 5, 2) := by decide +kernel
theorem dX12_isHeard_15 : decode cX12_isHeard 15 = .ok (.iload 5, 2) := by decide +kernel
theorem dX12_isHeard_17 : decode cX12_isHeard 17 = .ok (.iload_n 3, 1) := by decide +kernel
theorem dX12_isHeard_18 : decode cX12_isHeard 18 = .ok (.if_icmp .gt 101, 3) := by decide +kernel
theorem dX12_isHeard_21 : decode cX12_isHeard 21 = .ok (.iload 4, 2) := by decide +kernel
theorem dX12_isHeard_23 : decode cX12_isHeard 23 = .ok (.aload_n 0, 1) := by decide +kernel
theorem dX12_isHeard_24 : decode cX12_isHeard 24 = .ok (.iload_n 1, 1) := by decide +kernel
theorem dX12_isHeard_25 : decode cX12_isHeard 25 = .ok (.iload 5, 2) := by decide +kernel
theorem dX12_isHeard_27 : decode cX12_isHeard 27 = .ok (.invokevirtual 211, 3) := by decide +kernel
theorem dX12_isHeard_30 : decode cX12_isHeard 30 = .ok (.iadd, 1) := by decide +kernel
theorem dX12_isHeard_31 : decode cX12_isHeard 31 = .ok (.istore 4, 2) := by decide +kernel
theorem dX12_isHeard_33 : decode cX12_isHeard 33 = .ok (.iload 5, 2) := by decide +kernel
theorem dX12_isHeard_35 : decode cX12_isHeard 35 = .ok (.iload_n 2, 1) := by decide +kernel
theorem dX12_isHeard_36 : decode cX12_isHeard 36 = .ok (.if_icmp .lt 16, 3) := by decide +kernel
theorem dX12_isHeard_39 : decode cX12_isHeard 39 = .ok (.aload_n 0, 1) := by decide +kernel
theorem dX12_isHeard_40 : decode cX12_isHeard 40 = .ok (.iload 5, 2) := by decide +kernel
theorem dX12_isHeard_42 : decode cX12_isHeard 42 = .ok (.invokevirtual 146, 3) := by decide +kernel
theorem dX12_isHeard_45 : decode cX12_isHeard 45 = .ok (.ifCond .ne 7, 3) := by decide +kernel
theorem dX12_isHeard_48 : decode cX12_isHeard 48 = .ok (.iconst 1, 1) := by decide +kernel
theorem dX12_isHeard_49 : decode cX12_isHeard 49 = .ok (.goto 4, 3) := by decide +kernel
theorem dX12_isHeard_52 : decode cX12_isHeard 52 = .ok (.iconst 0, 1) := by decide +kernel
theorem dX12_isHeard_53 : decode cX12_isHeard 53 = .ok (.istore 6, 2) := by decide +kernel
theorem dX12_isHeard_55 : decode cX12_isHeard 55 = .ok (.aload_n 0, 1) := by decide +kernel
theorem dX12_isHeard_56 : decode cX12_isHeard 56 = .ok (.getfield 25, 3) := by decide +kernel
theorem dX12_isHeard_59 : decode cX12_isHeard 59 = .ok (.iconst 4, 1) := by decide +kernel
theorem dX12_isHeard_60 : decode cX12_isHeard 60 = .ok (.iload_n 1, 1) := by decide +kernel
theorem dX12_isHeard_61 : decode cX12_isHeard 61 = .ok (.iadd, 1) := by decide +kernel
theorem dX12_isHeard_62 : decode cX12_isHeard 62 = .ok (.iload 6, 2) := by decide +kernel
theorem dX12_isHeard_64 : decode cX12_isHeard 64 = .ok (.ifCond .eq 27, 3) := by decide +kernel
theorem dX12_isHeard_67 : decode cX12_isHeard 67 = .ok (.aload_n 0, 1) := by decide +kernel
theorem dX12_isHeard_68 : decode cX12_isHeard 68 = .ok (.getfield 25, 3) := by decide +kernel
theorem dX12_isHeard_71 : decode cX12_isHeard 71 = .ok (.iconst 4, 1) := by decide +kernel
theorem dX12_isHeard_72 : decode cX12_isHeard 72 = .ok (.iload_n 1, 1) := by decide +kernel
theorem dX12_isHeard_73 : decode cX12_isHeard 73 = .ok (.iadd, 1) := by decide +kernel
theorem dX12_isHeard_74 : decode cX12_isHeard 74 = .ok (.iaload, 1) := by decide +kernel
theorem dX12_isHeard_75 : decode cX12_isHeard 75 = .ok (.aload_n 0, 1) := by decide +kernel
theorem dX12_isHeard_76 : decode cX12_isHeard 76 = .ok (.getfield 13, 3) := by decide +kernel
theorem dX12_isHeard_79 : decode cX12_isHeard 79 = .ok (.iconst 3, 1) := by decide +kernel
theorem dX12_isHeard_80 : decode cX12_isHeard 80 = .ok (.iload_n 1, 1) := by decide +kernel
theorem dX12_isHeard_81 : decode cX12_isHeard 81 = .ok (.imul, 1) := by decide +kernel
theorem dX12_isHeard_82 : decode cX12_isHeard 82 = .ok (.iconst 1, 1) := by decide +kernel
theorem dX12_isHeard_83 : decode cX12_isHeard 83 = .ok (.iadd, 1) := by decide +kernel
theorem dX12_isHeard_84 : decode cX12_isHeard 84 = .ok (.iaload, 1) := by decide +kernel
theorem dX12_isHeard_85 : decode cX12_isHeard 85 = .ok (.invokestatic 149, 3) := by decide +kernel
theorem dX12_isHeard_88 : decode cX12_isHeard 88 = .ok (.goto 24, 3) := by decide +kernel
theorem dX12_isHeard_91 : decode cX12_isHeard 91 = .ok (.aload_n 0, 1) := by decide +kernel
theorem dX12_isHeard_92 : decode cX12_isHeard 92 = .ok (.getfield 25, 3) := by decide +kernel
theorem dX12_isHeard_95 : decode cX12_isHeard 95 = .ok (.iconst 4, 1) := by decide +kernel
theorem dX12_isHeard_96 : decode cX12_isHeard 96 = .ok (.iload_n 1, 1) := by decide +kernel
theorem dX12_isHeard_97 : decode cX12_isHeard 97 = .ok (.iadd, 1) := by decide +kernel
theorem dX12_isHeard_98 : decode cX12_isHeard 98 = .ok (.iaload, 1) := by decide +kernel
theorem dX12_isHeard_99 : decode cX12_isHeard 99 = .ok (.aload_n 0, 1) := by decide +kernel
theorem dX12_isHeard_100 : decode cX12_isHeard 100 = .ok (.getfield 13, 3) := by decide +kernel
theorem dX12_isHeard_103 : decode cX12_isHeard 103 = .ok (.iconst 3, 1) := by decide +kernel
theorem dX12_isHeard_104 : decode cX12_isHeard 104 = .ok (.iload_n 1, 1) := by decide +kernel
theorem dX12_isHeard_105 : decode cX12_isHeard 105 = .ok (.imul, 1) := by decide +kernel
theorem dX12_isHeard_106 : decode cX12_isHeard 106 = .ok (.iconst 2, 1) := by decide +kernel
theorem dX12_isHeard_107 : decode cX12_isHeard 107 = .ok (.iadd, 1) := by decide +kernel
theorem dX12_isHeard_108 : decode cX12_isHeard 108 = .ok (.iaload, 1) := by decide +kernel
theorem dX12_isHeard_109 : decode cX12_isHeard 109 = .ok (.invokestatic 152, 3) := by decide +kernel
theorem dX12_isHeard_112 : decode cX12_isHeard 112 = .ok (.iastore, 1) := by decide +kernel
theorem dX12_isHeard_113 : decode cX12_isHeard 113 = .ok (.iinc 5 1, 3) := by decide +kernel
theorem dX12_isHeard_116 : decode cX12_isHeard 116 = .ok (.goto (-101), 3) := by decide +kernel
theorem dX12_isHeard_119 : decode cX12_isHeard 119 = .ok (.iload 4, 2) := by decide +kernel
theorem dX12_isHeard_121 : decode cX12_isHeard 121 = .ok (.ifCond .ne 7, 3) := by decide +kernel
theorem dX12_isHeard_124 : decode cX12_isHeard 124 = .ok (.iconst 1, 1) := by decide +kernel
theorem dX12_isHeard_125 : decode cX12_isHeard 125 = .ok (.goto 4, 3) := by decide +kernel
theorem dX12_isHeard_128 : decode cX12_isHeard 128 = .ok (.iconst 0, 1) := by decide +kernel
theorem dX12_isHeard_129 : decode cX12_isHeard 129 = .ok (.ireturn, 1) := by decide +kernel
theorem dX12_latest_0 : decode cX12_latest 0 = .ok (.aload_n 0, 1) := by decide +kernel
theorem dX12_latest_1 : decode cX12_latest 1 = .ok (.iconst 0, 1) := by decide +kernel
theorem dX12_latest_2 : decode cX12_latest 2 = .ok (.putfield 61, 3) := by decide +kernel
theorem dX12_latest_5 : decode cX12_latest 5 = .ok (.aload_n 0, 1) := by decide +kernel
theorem dX12_latest_6 : decode cX12_latest 6 = .ok (.iload_n 1, 1) := by decide +kernel
theorem dX12_latest_7 : decode cX12_latest 7 = .ok (.invokevirtual 142, 3) := by decide +kernel
theorem dX12_latest_10 : decode cX12_latest 10 = .ok (.ifCond .eq 18, 3) := by decide +kernel
theorem dX12_latest_13 : decode cX12_latest 13 = .ok (.iload_n 2, 1) := by decide +kernel
theorem dX12_latest_14 : decode cX12_latest 14 = .ok (.aload_n 0, 1) := by decide +kernel
theorem dX12_latest_15 : decode cX12_latest 15 = .ok (.getfield 22, 3) := by decide +kernel
theorem dX12_latest_18 : decode cX12_latest 18 = .ok (.iconst 0, 1) := by decide +kernel
theorem dX12_latest_19 : decode cX12_latest 19 = .ok (.iaload, 1) := by decide +kernel
theorem dX12_latest_20 : decode cX12_latest 20 = .ok (.bipush 60, 2) := by decide +kernel
theorem dX12_latest_22 : decode cX12_latest 22 = .ok (.invokestatic 64, 3) := by decide +kernel
theorem dX12_latest_25 : decode cX12_latest 25 = .ok (.ifCond .ne 5, 3) := by decide +kernel
theorem dX12_latest_28 : decode cX12_latest 28 = .ok (.iconst (-1), 1) := by decide +kernel
theorem dX12_latest_29 : decode cX12_latest 29 = .ok (.ireturn, 1) := by decide +kernel
theorem dX12_latest_30 : decode cX12_latest 30 = .ok (.iload_n 2, 1) := by decide +kernel
theorem dX12_latest_31 : decode cX12_latest 31 = .ok (.iconst 1, 1) := by decide +kernel
theorem dX12_latest_32 : decode cX12_latest 32 = .ok (.iadd, 1) := by decide +kernel
theorem dX12_latest_33 : decode cX12_latest 33 = .ok (.istore_n 3, 1) := by decide +kernel
theorem dX12_latest_34 : decode cX12_latest 34 = .ok (.iload_n 3, 1) := by decide +kernel
theorem dX12_latest_35 : decode cX12_latest 35 = .ok (.aload_n 0, 1) := by decide +kernel
theorem dX12_latest_36 : decode cX12_latest 36 = .ok (.getfield 22, 3) := by decide +kernel
theorem dX12_latest_39 : decode cX12_latest 39 = .ok (.iconst 0, 1) := by decide +kernel
theorem dX12_latest_40 : decode cX12_latest 40 = .ok (.iaload, 1) := by decide +kernel
theorem dX12_latest_41 : decode cX12_latest 41 = .ok (.if_icmp .lt 21, 3) := by decide +kernel
theorem dX12_latest_44 : decode cX12_latest 44 = .ok (.aload_n 0, 1) := by decide +kernel
theorem dX12_latest_45 : decode cX12_latest 45 = .ok (.iload_n 1, 1) := by decide +kernel
theorem dX12_latest_46 : decode cX12_latest 46 = .ok (.iload_n 3, 1) := by decide +kernel
theorem dX12_latest_47 : decode cX12_latest 47 = .ok (.iload_n 2, 1) := by decide +kernel
theorem dX12_latest_48 : decode cX12_latest 48 = .ok (.invokevirtual 214, 3) := by decide +kernel
theorem dX12_latest_51 : decode cX12_latest 51 = .ok (.ifCond .eq 5, 3) := by decide +kernel
theorem dX12_latest_54 : decode cX12_latest 54 = .ok (.iload_n 3, 1) := by decide +kernel
theorem dX12_latest_55 : decode cX12_latest 55 = .ok (.ireturn, 1) := by decide +kernel
theorem dX12_latest_56 : decode cX12_latest 56 = .ok (.iinc 3 (-1), 3) := by decide +kernel
theorem dX12_latest_59 : decode cX12_latest 59 = .ok (.goto (-25), 3) := by decide +kernel
theorem dX12_latest_62 : decode cX12_latest 62 = .ok (.bipush (-9), 2) := by decide +kernel
theorem dX12_latest_64 : decode cX12_latest 64 = .ok (.ireturn, 1) := by decide +kernel
theorem dX12_says_0 : decode cX12_says 0 = .ok (.aload_n 0, 1) := by decide +kernel
theorem dX12_says_1 : decode cX12_says 1 = .ok (.iconst 0, 1) := by decide +kernel
theorem dX12_says_2 : decode cX12_says 2 = .ok (.putfield 61, 3) := by decide +kernel
theorem dX12_says_5 : decode cX12_says 5 = .ok (.aload_n 0, 1) := by decide +kernel
theorem dX12_says_6 : decode cX12_says 6 = .ok (.iload_n 1, 1) := by decide +kernel
theorem dX12_says_7 : decode cX12_says 7 = .ok (.invokevirtual 142, 3) := by decide +kernel
theorem dX12_says_10 : decode cX12_says 10 = .ok (.ifCond .eq 34, 3) := by decide +kernel
theorem dX12_says_13 : decode cX12_says 13 = .ok (.iload_n 2, 1) := by decide +kernel
theorem dX12_says_14 : decode cX12_says 14 = .ok (.iconst 0, 1) := by decide +kernel
theorem dX12_says_15 : decode cX12_says 15 = .ok (.bipush 100, 2) := by decide +kernel
theorem dX12_says_17 : decode cX12_says 17 = .ok (.invokestatic 64, 3) := by decide +kernel
theorem dX12_says_20 : decode cX12_says 20 = .ok (.ifCond .eq 24, 3) := by decide +kernel
theorem dX12_says_23 : decode cX12_says 23 = .ok (.iload_n 3, 1) := by decide +kernel
theorem dX12_says_24 : decode cX12_says 24 = .ok (.iconst 1, 1) := by decide +kernel
theorem dX12_says_25 : decode cX12_says 25 = .ok (.bipush 20, 2) := by decide +kernel
theorem dX12_says_27 : decode cX12_says 27 = .ok (.invokestatic 64, 3) := by decide +kernel
theorem dX12_says_30 : decode cX12_says 30 = .ok (.ifCond .eq 14, 3) := by decide +kernel
theorem dX12_says_33 : decode cX12_says 33 = .ok (.iload 4, 2) := by decide +kernel
theorem dX12_says_35 : decode cX12_says 35 = .ok (.iconst 0, 1) := by decide +kernel
theorem dX12_says_36 : decode cX12_says 36 = .ok (.bipush 100, 2) := by decide +kernel
theorem dX12_says_38 : decode cX12_says 38 = .ok (.invokestatic 64, 3) := by decide +kernel
theorem dX12_says_41 : decode cX12_says 41 = .ok (.ifCond .ne 5, 3) := by decide +kernel
theorem dX12_says_44 : decode cX12_says 44 = .ok (.iconst (-1), 1) := by decide +kernel
theorem dX12_says_45 : decode cX12_says 45 = .ok (.ireturn, 1) := by decide +kernel
theorem dX12_says_46 : decode cX12_says 46 = .ok (.aload_n 0, 1) := by decide +kernel
theorem dX12_says_47 : decode cX12_says 47 = .ok (.getfield 139, 3) := by decide +kernel
theorem dX12_says_50 : decode cX12_says 50 = .ok (.bipush 6, 2) := by decide +kernel
theorem dX12_says_52 : decode cX12_says 52 = .ok (.if_icmp .ne 6, 3) := by decide +kernel
theorem dX12_says_55 : decode cX12_says 55 = .ok (.bipush (-3), 2) := by decide +kernel
theorem dX12_says_57 : decode cX12_says 57 = .ok (.ireturn, 1) := by decide +kernel
theorem dX12_says_58 : decode cX12_says 58 = .ok (.iconst 4, 1) := by decide +kernel
theorem dX12_says_59 : decode cX12_says 59 = .ok (.aload_n 0, 1) := by decide +kernel
theorem dX12_says_60 : decode cX12_says 60 = .ok (.getfield 139, 3) := by decide +kernel
theorem dX12_says_63 : decode cX12_says 63 = .ok (.imul, 1) := by decide +kernel
theorem dX12_says_64 : decode cX12_says 64 = .ok (.istore 5, 2) := by decide +kernel
theorem dX12_says_66 : decode cX12_says 66 = .ok (.aload_n 0, 1) := by decide +kernel
theorem dX12_says_67 : decode cX12_says 67 = .ok (.getfield 38, 3) := by decide +kernel
theorem dX12_says_70 : decode cX12_says 70 = .ok (.iload 5, 2) := by decide +kernel
theorem dX12_says_72 : decode cX12_says 72 = .ok (.iload_n 1, 1) := by decide +kernel
theorem dX12_says_73 : decode cX12_says 73 = .ok (.iastore, 1) := by decide +kernel
theorem dX12_says_74 : decode cX12_says 74 = .ok (.aload_n 0, 1) := by decide +kernel
theorem dX12_says_75 : decode cX12_says 75 = .ok (.getfield 38, 3) := by decide +kernel
theorem dX12_says_78 : decode cX12_says 78 = .ok (.iload 5, 2) := by decide +kernel
theorem dX12_says_80 : decode cX12_says 80 = .ok (.iconst 1, 1) := by decide +kernel
theorem dX12_says_81 : decode cX12_says 81 = .ok (.iadd, 1) := by decide +kernel
theorem dX12_says_82 : decode cX12_says 82 = .ok (.iload_n 2, 1) := by decide +kernel
theorem dX12_says_83 : decode cX12_says 83 = .ok (.iastore, 1) := by decide +kernel
theorem dX12_says_84 : decode cX12_says 84 = .ok (.aload_n 0, 1) := by decide +kernel
theorem dX12_says_85 : decode cX12_says 85 = .ok (.getfield 38, 3) := by decide +kernel
theorem dX12_says_88 : decode cX12_says 88 = .ok (.iload 5, 2) := by decide +kernel
theorem dX12_says_90 : decode cX12_says 90 = .ok (.iconst 2, 1) := by decide +kernel
theorem dX12_says_91 : decode cX12_says 91 = .ok (.iadd, 1) := by decide +kernel
theorem dX12_says_92 : decode cX12_says 92 = .ok (.iload_n 3, 1) := by decide +kernel
theorem dX12_says_93 : decode cX12_says 93 = .ok (.iastore, 1) := by decide +kernel
theorem dX12_says_94 : decode cX12_says 94 = .ok (.aload_n 0, 1) := by decide +kernel
theorem dX12_says_95 : decode cX12_says 95 = .ok (.getfield 38, 3) := by decide +kernel
theorem dX12_says_98 : decode cX12_says 98 = .ok (.iload 5, 2) := by decide +kernel
theorem dX12_says_100 : decode cX12_says 100 = .ok (.iconst 3, 1) := by decide +kernel
theorem dX12_says_101 : decode cX12_says 101 = .ok (.iadd, 1) := by decide +kernel
theorem dX12_says_102 : decode cX12_says 102 = .ok (.iload 4, 2) := by decide +kernel
theorem dX12_says_104 : decode cX12_says 104 = .ok (.iastore, 1) := by decide +kernel
theorem dX12_says_105 : decode cX12_says 105 = .ok (.aload_n 0, 1) := by decide +kernel
theorem dX12_says_106 : decode cX12_says 106 = .ok (.dup, 1) := by decide +kernel
theorem dX12_says_107 : decode cX12_says 107 = .ok (.getfield 139, 3) := by decide +kernel
theorem dX12_says_110 : decode cX12_says 110 = .ok (.iconst 1, 1) := by decide +kernel
theorem dX12_says_111 : decode cX12_says 111 = .ok (.iadd, 1) := by decide +kernel
theorem dX12_says_112 : decode cX12_says 112 = .ok (.putfield 139, 3) := by decide +kernel
theorem dX12_says_115 : decode cX12_says 115 = .ok (.aload_n 0, 1) := by decide +kernel
theorem dX12_says_116 : decode cX12_says 116 = .ok (.getfield 139, 3) := by decide +kernel
theorem dX12_says_119 : decode cX12_says 119 = .ok (.ireturn, 1) := by decide +kernel
theorem dX12_forget_0 : decode cX12_forget 0 = .ok (.aload_n 0, 1) := by decide +kernel
theorem dX12_forget_1 : decode cX12_forget 1 = .ok (.iconst 0, 1) := by decide +kernel
theorem dX12_forget_2 : decode cX12_forget 2 = .ok (.putfield 61, 3) := by decide +kernel
theorem dX12_forget_5 : decode cX12_forget 5 = .ok (.aload_n 0, 1) := by decide +kernel
theorem dX12_forget_6 : decode cX12_forget 6 = .ok (.getfield 139, 3) := by decide +kernel
theorem dX12_forget_9 : decode cX12_forget 9 = .ok (.istore_n 1, 1) := by decide +kernel
theorem dX12_forget_10 : decode cX12_forget 10 = .ok (.aload_n 0, 1) := by decide +kernel
theorem dX12_forget_11 : decode cX12_forget 11 = .ok (.iconst 0, 1) := by decide +kernel
theorem dX12_forget_12 : decode cX12_forget 12 = .ok (.putfield 139, 3) := by decide +kernel
theorem dX12_forget_15 : decode cX12_forget 15 = .ok (.iload_n 1, 1) := by decide +kernel
theorem dX12_forget_16 : decode cX12_forget 16 = .ok (.ireturn, 1) := by decide +kernel
theorem dX12_risen_0 : decode cX12_risen 0 = .ok (.iload_n 2, 1) := by decide +kernel
theorem dX12_risen_1 : decode cX12_risen 1 = .ok (.istore 4, 2) := by decide +kernel
theorem dX12_risen_3 : decode cX12_risen 3 = .ok (.iconst 0, 1) := by decide +kernel
theorem dX12_risen_4 : decode cX12_risen 4 = .ok (.istore 5, 2) := by decide +kernel
theorem dX12_risen_6 : decode cX12_risen 6 = .ok (.iload 5, 2) := by decide +kernel
theorem dX12_risen_8 : decode cX12_risen 8 = .ok (.iload_n 3, 1) := by decide +kernel
theorem dX12_risen_9 : decode cX12_risen 9 = .ok (.if_icmp .ge 26, 3) := by decide +kernel
theorem dX12_risen_12 : decode cX12_risen 12 = .ok (.iload 4, 2) := by decide +kernel
theorem dX12_risen_14 : decode cX12_risen 14 = .ok (.aload_n 0, 1) := by decide +kernel
theorem dX12_risen_15 : decode cX12_risen 15 = .ok (.getfield 13, 3) := by decide +kernel
theorem dX12_risen_18 : decode cX12_risen 18 = .ok (.iconst 3, 1) := by decide +kernel
theorem dX12_risen_19 : decode cX12_risen 19 = .ok (.iload_n 1, 1) := by decide +kernel
theorem dX12_risen_20 : decode cX12_risen 20 = .ok (.imul, 1) := by decide +kernel
theorem dX12_risen_21 : decode cX12_risen 21 = .ok (.iconst 1, 1) := by decide +kernel
theorem dX12_risen_22 : decode cX12_risen 22 = .ok (.iadd, 1) := by decide +kernel
theorem dX12_risen_23 : decode cX12_risen 23 = .ok (.iaload, 1) := by decide +kernel
theorem dX12_risen_24 : decode cX12_risen 24 = .ok (.invokestatic 149, 3) := by decide +kernel
theorem dX12_risen_27 : decode cX12_risen 27 = .ok (.istore 4, 2) := by decide +kernel
theorem dX12_risen_29 : decode cX12_risen 29 = .ok (.iinc 5 1, 3) := by decide +kernel
theorem dX12_risen_32 : decode cX12_risen 32 = .ok (.goto (-26), 3) := by decide +kernel
theorem dX12_risen_35 : decode cX12_risen 35 = .ok (.iload 4, 2) := by decide +kernel
theorem dX12_risen_37 : decode cX12_risen 37 = .ok (.ireturn, 1) := by decide +kernel
theorem dX12_could_0 : decode cX12_could 0 = .ok (.aload_n 0, 1) := by decide +kernel
theorem dX12_could_1 : decode cX12_could 1 = .ok (.iconst 0, 1) := by decide +kernel
theorem dX12_could_2 : decode cX12_could 2 = .ok (.putfield 61, 3) := by decide +kernel
theorem dX12_could_5 : decode cX12_could 5 = .ok (.iload_n 1, 1) := by decide +kernel
theorem dX12_could_6 : decode cX12_could 6 = .ok (.iconst 0, 1) := by decide +kernel
theorem dX12_could_7 : decode cX12_could 7 = .ok (.aload_n 0, 1) := by decide +kernel
theorem dX12_could_8 : decode cX12_could 8 = .ok (.getfield 139, 3) := by decide +kernel
theorem dX12_could_11 : decode cX12_could 11 = .ok (.iconst 1, 1) := by decide +kernel
theorem dX12_could_12 : decode cX12_could 12 = .ok (.isub, 1) := by decide +kernel
theorem dX12_could_13 : decode cX12_could 13 = .ok (.invokestatic 64, 3) := by decide +kernel
theorem dX12_could_16 : decode cX12_could 16 = .ok (.ifCond .eq 12, 3) := by decide +kernel
theorem dX12_could_19 : decode cX12_could 19 = .ok (.iload_n 2, 1) := by decide +kernel
theorem dX12_could_20 : decode cX12_could 20 = .ok (.iconst 0, 1) := by decide +kernel
theorem dX12_could_21 : decode cX12_could 21 = .ok (.iconst 2, 1) := by decide +kernel
theorem dX12_could_22 : decode cX12_could 22 = .ok (.invokestatic 64, 3) := by decide +kernel
theorem dX12_could_25 : decode cX12_could 25 = .ok (.ifCond .ne 5, 3) := by decide +kernel
theorem dX12_could_28 : decode cX12_could 28 = .ok (.iconst (-1), 1) := by decide +kernel
theorem dX12_could_29 : decode cX12_could 29 = .ok (.ireturn, 1) := by decide +kernel
theorem dX12_could_30 : decode cX12_could 30 = .ok (.iconst 0, 1) := by decide +kernel
theorem dX12_could_31 : decode cX12_could 31 = .ok (.istore_n 3, 1) := by decide +kernel
theorem dX12_could_32 : decode cX12_could 32 = .ok (.bipush (-9), 2) := by decide +kernel
theorem dX12_could_34 : decode cX12_could 34 = .ok (.istore 4, 2) := by decide +kernel
theorem dX12_could_36 : decode cX12_could 36 = .ok (.bipush (-9), 2) := by decide +kernel
theorem dX12_could_38 : decode cX12_could 38 = .ok (.istore 5, 2) := by decide +kernel
theorem dX12_could_40 : decode cX12_could 40 = .ok (.iconst 0, 1) := by decide +kernel
theorem dX12_could_41 : decode cX12_could 41 = .ok (.istore 6, 2) := by decide +kernel
theorem dX12_could_43 : decode cX12_could 43 = .ok (.iload 6, 2) := by decide +kernel
theorem dX12_could_45 : decode cX12_could 45 = .ok (.bipush 101, 2) := by decide +kernel
theorem dX12_could_47 : decode cX12_could 47 = .ok (.if_icmp .ge 69, 3) := by decide +kernel
theorem dX12_could_50 : decode cX12_could 50 = .ok (.aload_n 0, 1) := by decide +kernel
theorem dX12_could_51 : decode cX12_could 51 = .ok (.aload_n 0, 1) := by decide +kernel
theorem dX12_could_52 : decode cX12_could 52 = .ok (.getfield 38, 3) := by decide +kernel
theorem dX12_could_55 : decode cX12_could 55 = .ok (.iconst 4, 1) := by decide +kernel
theorem dX12_could_56 : decode cX12_could 56 = .ok (.iload_n 1, 1) := by decide +kernel
theorem dX12_could_57 : decode cX12_could 57 = .ok (.imul, 1) := by decide +kernel
theorem dX12_could_58 : decode cX12_could 58 = .ok (.iaload, 1) := by decide +kernel
theorem dX12_could_59 : decode cX12_could 59 = .ok (.iload 6, 2) := by decide +kernel
theorem dX12_could_61 : decode cX12_could 61 = .ok (.aload_n 0, 1) := by decide +kernel
theorem dX12_could_62 : decode cX12_could 62 = .ok (.getfield 38, 3) := by decide +kernel
theorem dX12_could_65 : decode cX12_could 65 = .ok (.iconst 4, 1) := by decide +kernel
theorem dX12_could_66 : decode cX12_could 66 = .ok (.iload_n 1, 1) := by decide +kernel
theorem dX12_could_67 : decode cX12_could 67 = .ok (.imul, 1) := by decide +kernel
theorem dX12_could_68 : decode cX12_could 68 = .ok (.iconst 2, 1) := by decide +kernel
theorem dX12_could_69 : decode cX12_could 69 = .ok (.iadd, 1) := by decide +kernel
theorem dX12_could_70 : decode cX12_could 70 = .ok (.iaload, 1) := by decide +kernel
theorem dX12_could_71 : decode cX12_could 71 = .ok (.invokevirtual 217, 3) := by decide +kernel
theorem dX12_could_74 : decode cX12_could 74 = .ok (.aload_n 0, 1) := by decide +kernel
theorem dX12_could_75 : decode cX12_could 75 = .ok (.getfield 38, 3) := by decide +kernel
theorem dX12_could_78 : decode cX12_could 78 = .ok (.iconst 4, 1) := by decide +kernel
theorem dX12_could_79 : decode cX12_could 79 = .ok (.iload_n 1, 1) := by decide +kernel
theorem dX12_could_80 : decode cX12_could 80 = .ok (.imul, 1) := by decide +kernel
theorem dX12_could_81 : decode cX12_could 81 = .ok (.iconst 3, 1) := by decide +kernel
theorem dX12_could_82 : decode cX12_could 82 = .ok (.iadd, 1) := by decide +kernel
theorem dX12_could_83 : decode cX12_could 83 = .ok (.iaload, 1) := by decide +kernel
theorem dX12_could_84 : decode cX12_could 84 = .ok (.if_icmp .ne 26, 3) := by decide +kernel
theorem dX12_could_87 : decode cX12_could 87 = .ok (.iinc 3 1, 3) := by decide +kernel
theorem dX12_could_90 : decode cX12_could 90 = .ok (.iload 4, 2) := by decide +kernel
theorem dX12_could_92 : decode cX12_could 92 = .ok (.bipush (-9), 2) := by decide +kernel
theorem dX12_could_94 : decode cX12_could 94 = .ok (.if_icmp .ne 8, 3) := by decide +kernel
theorem dX12_could_97 : decode cX12_could 97 = .ok (.iload 6, 2) := by decide +kernel
theorem dX12_could_99 : decode cX12_could 99 = .ok (.goto 5, 3) := by decide +kernel
theorem dX12_could_102 : decode cX12_could 102 = .ok (.iload 4, 2) := by decide +kernel
theorem dX12_could_104 : decode cX12_could 104 = .ok (.istore 4, 2) := by decide +kernel
theorem dX12_could_106 : decode cX12_could 106 = .ok (.iload 6, 2) := by decide +kernel
theorem dX12_could_108 : decode cX12_could 108 = .ok (.istore 5, 2) := by decide +kernel
theorem dX12_could_110 : decode cX12_could 110 = .ok (.iinc 6 1, 3) := by decide +kernel
theorem dX12_could_113 : decode cX12_could 113 = .ok (.goto (-70), 3) := by decide +kernel
theorem dX12_could_116 : decode cX12_could 116 = .ok (.iload_n 2, 1) := by decide +kernel
theorem dX12_could_117 : decode cX12_could 117 = .ok (.ifCond .ne 7, 3) := by decide +kernel
theorem dX12_could_120 : decode cX12_could 120 = .ok (.iload_n 3, 1) := by decide +kernel
theorem dX12_could_121 : decode cX12_could 121 = .ok (.goto 15, 3) := by decide +kernel
theorem dX12_could_124 : decode cX12_could 124 = .ok (.iload_n 2, 1) := by decide +kernel
theorem dX12_could_125 : decode cX12_could 125 = .ok (.iconst 1, 1) := by decide +kernel
theorem dX12_could_126 : decode cX12_could 126 = .ok (.if_icmp .ne 8, 3) := by decide +kernel
theorem dX12_could_129 : decode cX12_could 129 = .ok (.iload 4, 2) := by decide +kernel
theorem dX12_could_131 : decode cX12_could 131 = .ok (.goto 5, 3) := by decide +kernel
theorem dX12_could_134 : decode cX12_could 134 = .ok (.iload 5, 2) := by decide +kernel
theorem dX12_could_136 : decode cX12_could 136 = .ok (.ireturn, 1) := by decide +kernel
theorem dX12_liars_0 : decode cX12_liars 0 = .ok (.aload_n 0, 1) := by decide +kernel
theorem dX12_liars_1 : decode cX12_liars 1 = .ok (.iconst 0, 1) := by decide +kernel
theorem dX12_liars_2 : decode cX12_liars 2 = .ok (.putfield 61, 3) := by decide +kernel
theorem dX12_liars_5 : decode cX12_liars 5 = .ok (.iconst 0, 1) := by decide +kernel
theorem dX12_liars_6 : decode cX12_liars 6 = .ok (.istore_n 1, 1) := by decide +kernel
theorem dX12_liars_7 : decode cX12_liars 7 = .ok (.iconst 0, 1) := by decide +kernel
theorem dX12_liars_8 : decode cX12_liars 8 = .ok (.istore_n 2, 1) := by decide +kernel
theorem dX12_liars_9 : decode cX12_liars 9 = .ok (.iload_n 2, 1) := by decide +kernel
theorem dX12_liars_10 : decode cX12_liars 10 = .ok (.aload_n 0, 1) := by decide +kernel
theorem dX12_liars_11 : decode cX12_liars 11 = .ok (.getfield 139, 3) := by decide +kernel
theorem dX12_liars_14 : decode cX12_liars 14 = .ok (.if_icmp .ge 60, 3) := by decide +kernel
theorem dX12_liars_17 : decode cX12_liars 17 = .ok (.iconst 4, 1) := by decide +kernel
theorem dX12_liars_18 : decode cX12_liars 18 = .ok (.iload_n 2, 1) := by decide +kernel
theorem dX12_liars_19 : decode cX12_liars 19 = .ok (.imul, 1) := by decide +kernel
theorem dX12_liars_20 : decode cX12_liars 20 = .ok (.istore_n 3, 1) := by decide +kernel
theorem dX12_liars_21 : decode cX12_liars 21 = .ok (.iload_n 1, 1) := by decide +kernel
theorem dX12_liars_22 : decode cX12_liars 22 = .ok (.aload_n 0, 1) := by decide +kernel
theorem dX12_liars_23 : decode cX12_liars 23 = .ok (.aload_n 0, 1) := by decide +kernel
theorem dX12_liars_24 : decode cX12_liars 24 = .ok (.getfield 38, 3) := by decide +kernel
theorem dX12_liars_27 : decode cX12_liars 27 = .ok (.iload_n 3, 1) := by decide +kernel
theorem dX12_liars_28 : decode cX12_liars 28 = .ok (.iaload, 1) := by decide +kernel
theorem dX12_liars_29 : decode cX12_liars 29 = .ok (.aload_n 0, 1) := by decide +kernel
theorem dX12_liars_30 : decode cX12_liars 30 = .ok (.getfield 38, 3) := by decide +kernel
theorem dX12_liars_33 : decode cX12_liars 33 = .ok (.iload_n 3, 1) := by decide +kernel
theorem dX12_liars_34 : decode cX12_liars 34 = .ok (.iconst 1, 1) := by decide +kernel
theorem dX12_liars_35 : decode cX12_liars 35 = .ok (.iadd, 1) := by decide +kernel
theorem dX12_liars_36 : decode cX12_liars 36 = .ok (.iaload, 1) := by decide +kernel
theorem dX12_liars_37 : decode cX12_liars 37 = .ok (.aload_n 0, 1) := by decide +kernel
theorem dX12_liars_38 : decode cX12_liars 38 = .ok (.getfield 38, 3) := by decide +kernel
theorem dX12_liars_41 : decode cX12_liars 41 = .ok (.iload_n 3, 1) := by decide +kernel
theorem dX12_liars_42 : decode cX12_liars 42 = .ok (.iconst 2, 1) := by decide +kernel
theorem dX12_liars_43 : decode cX12_liars 43 = .ok (.iadd, 1) := by decide +kernel
theorem dX12_liars_44 : decode cX12_liars 44 = .ok (.iaload, 1) := by decide +kernel
theorem dX12_liars_45 : decode cX12_liars 45 = .ok (.invokevirtual 217, 3) := by decide +kernel
theorem dX12_liars_48 : decode cX12_liars 48 = .ok (.aload_n 0, 1) := by decide +kernel
theorem dX12_liars_49 : decode cX12_liars 49 = .ok (.getfield 38, 3) := by decide +kernel
theorem dX12_liars_52 : decode cX12_liars 52 = .ok (.iload_n 3, 1) := by decide +kernel
theorem dX12_liars_53 : decode cX12_liars 53 = .ok (.iconst 3, 1) := by decide +kernel
theorem dX12_liars_54 : decode cX12_liars 54 = .ok (.iadd, 1) := by decide +kernel
theorem dX12_liars_55 : decode cX12_liars 55 = .ok (.iaload, 1) := by decide +kernel
theorem dX12_liars_56 : decode cX12_liars 56 = .ok (.if_icmp .eq 9, 3) := by decide +kernel
theorem dX12_liars_59 : decode cX12_liars 59 = .ok (.iconst 1, 1) := by decide +kernel
theorem dX12_liars_60 : decode cX12_liars 60 = .ok (.iload_n 2, 1) := by decide +kernel
theorem dX12_liars_61 : decode cX12_liars 61 = .ok (.ishl, 1) := by decide +kernel
theorem dX12_liars_62 : decode cX12_liars 62 = .ok (.goto 4, 3) := by decide +kernel
theorem dX12_liars_65 : decode cX12_liars 65 = .ok (.iconst 0, 1) := by decide +kernel
theorem dX12_liars_66 : decode cX12_liars 66 = .ok (.ior, 1) := by decide +kernel
theorem dX12_liars_67 : decode cX12_liars 67 = .ok (.istore_n 1, 1) := by decide +kernel
theorem dX12_liars_68 : decode cX12_liars 68 = .ok (.iinc 2 1, 3) := by decide +kernel
theorem dX12_liars_71 : decode cX12_liars 71 = .ok (.goto (-62), 3) := by decide +kernel
theorem dX12_liars_74 : decode cX12_liars 74 = .ok (.iload_n 1, 1) := by decide +kernel
theorem dX12_liars_75 : decode cX12_liars 75 = .ok (.ireturn, 1) := by decide +kernel
theorem dX12_gcd_0 : decode cX12_gcd 0 = .ok (.lload_n 0, 1) := by decide +kernel
theorem dX12_gcd_1 : decode cX12_gcd 1 = .ok (.lstore 4, 2) := by decide +kernel
theorem dX12_gcd_3 : decode cX12_gcd 3 = .ok (.lload_n 2, 1) := by decide +kernel
theorem dX12_gcd_4 : decode cX12_gcd 4 = .ok (.lstore 6, 2) := by decide +kernel
theorem dX12_gcd_6 : decode cX12_gcd 6 = .ok (.lload 6, 2) := by decide +kernel
theorem dX12_gcd_8 : decode cX12_gcd 8 = .ok (.lconst 0, 1) := by decide +kernel
theorem dX12_gcd_9 : decode cX12_gcd 9 = .ok (.lcmp, 1) := by decide +kernel
theorem dX12_gcd_10 : decode cX12_gcd 10 = .ok (.ifCond .eq 21, 3) := by decide +kernel
theorem dX12_gcd_13 : decode cX12_gcd 13 = .ok (.lload 4, 2) := by decide +kernel
theorem dX12_gcd_15 : decode cX12_gcd 15 = .ok (.lload 6, 2) := by decide +kernel
theorem dX12_gcd_17 : decode cX12_gcd 17 = .ok (.lrem, 1) := by decide +kernel
theorem dX12_gcd_18 : decode cX12_gcd 18 = .ok (.lstore 8, 2) := by decide +kernel
theorem dX12_gcd_20 : decode cX12_gcd 20 = .ok (.lload 6, 2) := by decide +kernel
theorem dX12_gcd_22 : decode cX12_gcd 22 = .ok (.lstore 4, 2) := by decide +kernel
theorem dX12_gcd_24 : decode cX12_gcd 24 = .ok (.lload 8, 2) := by decide +kernel
theorem dX12_gcd_26 : decode cX12_gcd 26 = .ok (.lstore 6, 2) := by decide +kernel
theorem dX12_gcd_28 : decode cX12_gcd 28 = .ok (.goto (-22), 3) := by decide +kernel
theorem dX12_gcd_31 : decode cX12_gcd 31 = .ok (.lload 4, 2) := by decide +kernel
theorem dX12_gcd_33 : decode cX12_gcd 33 = .ok (.lreturn, 1) := by decide +kernel
theorem dX12_spreads_0 : decode cX12_spreads 0 = .ok (.iconst 0, 1) := by decide +kernel
theorem dX12_spreads_1 : decode cX12_spreads 1 = .ok (.istore_n 3, 1) := by decide +kernel
theorem dX12_spreads_2 : decode cX12_spreads 2 = .ok (.iload_n 3, 1) := by decide +kernel
theorem dX12_spreads_3 : decode cX12_spreads 3 = .ok (.bipush 101, 2) := by decide +kernel
theorem dX12_spreads_5 : decode cX12_spreads 5 = .ok (.if_icmp .ge 16, 3) := by decide +kernel
theorem dX12_spreads_8 : decode cX12_spreads 8 = .ok (.aload_n 0, 1) := by decide +kernel
theorem dX12_spreads_9 : decode cX12_spreads 9 = .ok (.getfield 51, 3) := by decide +kernel
theorem dX12_spreads_12 : decode cX12_spreads 12 = .ok (.iload_n 3, 1) := by decide +kernel
theorem dX12_spreads_13 : decode cX12_spreads 13 = .ok (.lconst 0, 1) := by decide +kernel
theorem dX12_spreads_14 : decode cX12_spreads 14 = .ok (.lastore, 1) := by decide +kernel
theorem dX12_spreads_15 : decode cX12_spreads 15 = .ok (.iinc 3 1, 3) := by decide +kernel
theorem dX12_spreads_18 : decode cX12_spreads 18 = .ok (.goto (-16), 3) := by decide +kernel
theorem dX12_spreads_21 : decode cX12_spreads 21 = .ok (.iconst 0, 1) := by decide +kernel
theorem dX12_spreads_22 : decode cX12_spreads 22 = .ok (.istore_n 3, 1) := by decide +kernel
theorem dX12_spreads_23 : decode cX12_spreads 23 = .ok (.iload_n 3, 1) := by decide +kernel
theorem dX12_spreads_24 : decode cX12_spreads 24 = .ok (.bipush 101, 2) := by decide +kernel
theorem dX12_spreads_26 : decode cX12_spreads 26 = .ok (.if_icmp .ge 74, 3) := by decide +kernel
theorem dX12_spreads_29 : decode cX12_spreads 29 = .ok (.aload_n 0, 1) := by decide +kernel
theorem dX12_spreads_30 : decode cX12_spreads 30 = .ok (.getfield 51, 3) := by decide +kernel
theorem dX12_spreads_33 : decode cX12_spreads 33 = .ok (.iload_n 3, 1) := by decide +kernel
theorem dX12_spreads_34 : decode cX12_spreads 34 = .ok (.aload_n 0, 1) := by decide +kernel
theorem dX12_spreads_35 : decode cX12_spreads 35 = .ok (.getfield 13, 3) := by decide +kernel
theorem dX12_spreads_38 : decode cX12_spreads 38 = .ok (.iconst 3, 1) := by decide +kernel
theorem dX12_spreads_39 : decode cX12_spreads 39 = .ok (.iload_n 1, 1) := by decide +kernel
theorem dX12_spreads_40 : decode cX12_spreads 40 = .ok (.imul, 1) := by decide +kernel
theorem dX12_spreads_41 : decode cX12_spreads 41 = .ok (.iconst 1, 1) := by decide +kernel
theorem dX12_spreads_42 : decode cX12_spreads 42 = .ok (.iadd, 1) := by decide +kernel
theorem dX12_spreads_43 : decode cX12_spreads 43 = .ok (.iaload, 1) := by decide +kernel
theorem dX12_spreads_44 : decode cX12_spreads 44 = .ok (.invokestatic 149, 3) := by decide +kernel
theorem dX12_spreads_47 : decode cX12_spreads 47 = .ok (.dup2, 1) := by decide +kernel
theorem dX12_spreads_48 : decode cX12_spreads 48 = .ok (.laload, 1) := by decide +kernel
theorem dX12_spreads_49 : decode cX12_spreads 49 = .ok (.aload_n 0, 1) := by decide +kernel
theorem dX12_spreads_50 : decode cX12_spreads 50 = .ok (.getfield 47, 3) := by decide +kernel
theorem dX12_spreads_53 : decode cX12_spreads 53 = .ok (.iload_n 3, 1) := by decide +kernel
theorem dX12_spreads_54 : decode cX12_spreads 54 = .ok (.laload, 1) := by decide +kernel
theorem dX12_spreads_55 : decode cX12_spreads 55 = .ok (.bipush 10, 2) := by decide +kernel
theorem dX12_spreads_57 : decode cX12_spreads 57 = .ok (.iload_n 2, 1) := by decide +kernel
theorem dX12_spreads_58 : decode cX12_spreads 58 = .ok (.isub, 1) := by decide +kernel
theorem dX12_spreads_59 : decode cX12_spreads 59 = .ok (.i2l, 1) := by decide +kernel
theorem dX12_spreads_60 : decode cX12_spreads 60 = .ok (.lmul, 1) := by decide +kernel
theorem dX12_spreads_61 : decode cX12_spreads 61 = .ok (.ladd, 1) := by decide +kernel
theorem dX12_spreads_62 : decode cX12_spreads 62 = .ok (.lastore, 1) := by decide +kernel
theorem dX12_spreads_63 : decode cX12_spreads 63 = .ok (.aload_n 0, 1) := by decide +kernel
theorem dX12_spreads_64 : decode cX12_spreads 64 = .ok (.getfield 51, 3) := by decide +kernel
theorem dX12_spreads_67 : decode cX12_spreads 67 = .ok (.iload_n 3, 1) := by decide +kernel
theorem dX12_spreads_68 : decode cX12_spreads 68 = .ok (.aload_n 0, 1) := by decide +kernel
theorem dX12_spreads_69 : decode cX12_spreads 69 = .ok (.getfield 13, 3) := by decide +kernel
theorem dX12_spreads_72 : decode cX12_spreads 72 = .ok (.iconst 3, 1) := by decide +kernel
theorem dX12_spreads_73 : decode cX12_spreads 73 = .ok (.iload_n 1, 1) := by decide +kernel
theorem dX12_spreads_74 : decode cX12_spreads 74 = .ok (.imul, 1) := by decide +kernel
theorem dX12_spreads_75 : decode cX12_spreads 75 = .ok (.iconst 2, 1) := by decide +kernel
theorem dX12_spreads_76 : decode cX12_spreads 76 = .ok (.iadd, 1) := by decide +kernel
theorem dX12_spreads_77 : decode cX12_spreads 77 = .ok (.iaload, 1) := by decide +kernel
theorem dX12_spreads_78 : decode cX12_spreads 78 = .ok (.invokestatic 152, 3) := by decide +kernel
theorem dX12_spreads_81 : decode cX12_spreads 81 = .ok (.dup2, 1) := by decide +kernel
theorem dX12_spreads_82 : decode cX12_spreads 82 = .ok (.laload, 1) := by decide +kernel
theorem dX12_spreads_83 : decode cX12_spreads 83 = .ok (.aload_n 0, 1) := by decide +kernel
theorem dX12_spreads_84 : decode cX12_spreads 84 = .ok (.getfield 47, 3) := by decide +kernel
theorem dX12_spreads_87 : decode cX12_spreads 87 = .ok (.iload_n 3, 1) := by decide +kernel
theorem dX12_spreads_88 : decode cX12_spreads 88 = .ok (.laload, 1) := by decide +kernel
theorem dX12_spreads_89 : decode cX12_spreads 89 = .ok (.iload_n 2, 1) := by decide +kernel
theorem dX12_spreads_90 : decode cX12_spreads 90 = .ok (.i2l, 1) := by decide +kernel
theorem dX12_spreads_91 : decode cX12_spreads 91 = .ok (.lmul, 1) := by decide +kernel
theorem dX12_spreads_92 : decode cX12_spreads 92 = .ok (.ladd, 1) := by decide +kernel
theorem dX12_spreads_93 : decode cX12_spreads 93 = .ok (.lastore, 1) := by decide +kernel
theorem dX12_spreads_94 : decode cX12_spreads 94 = .ok (.iinc 3 1, 3) := by decide +kernel
theorem dX12_spreads_97 : decode cX12_spreads 97 = .ok (.goto (-74), 3) := by decide +kernel
theorem dX12_spreads_100 : decode cX12_spreads 100 = .ok (.iconst 0, 1) := by decide +kernel
theorem dX12_spreads_101 : decode cX12_spreads 101 = .ok (.istore_n 3, 1) := by decide +kernel
theorem dX12_spreads_102 : decode cX12_spreads 102 = .ok (.iload_n 3, 1) := by decide +kernel
theorem dX12_spreads_103 : decode cX12_spreads 103 = .ok (.bipush 101, 2) := by decide +kernel
theorem dX12_spreads_105 : decode cX12_spreads 105 = .ok (.if_icmp .ge 21, 3) := by decide +kernel
theorem dX12_spreads_108 : decode cX12_spreads 108 = .ok (.aload_n 0, 1) := by decide +kernel
theorem dX12_spreads_109 : decode cX12_spreads 109 = .ok (.getfield 47, 3) := by decide +kernel
theorem dX12_spreads_112 : decode cX12_spreads 112 = .ok (.iload_n 3, 1) := by decide +kernel
theorem dX12_spreads_113 : decode cX12_spreads 113 = .ok (.aload_n 0, 1) := by decide +kernel
theorem dX12_spreads_114 : decode cX12_spreads 114 = .ok (.getfield 51, 3) := by decide +kernel
theorem dX12_spreads_117 : decode cX12_spreads 117 = .ok (.iload_n 3, 1) := by decide +kernel
theorem dX12_spreads_118 : decode cX12_spreads 118 = .ok (.laload, 1) := by decide +kernel
theorem dX12_spreads_119 : decode cX12_spreads 119 = .ok (.lastore, 1) := by decide +kernel
theorem dX12_spreads_120 : decode cX12_spreads 120 = .ok (.iinc 3 1, 3) := by decide +kernel
theorem dX12_spreads_123 : decode cX12_spreads 123 = .ok (.goto (-21), 3) := by decide +kernel
theorem dX12_spreads_126 : decode cX12_spreads 126 = .ok (.return_, 1) := by decide +kernel
theorem dX12_odds_0 : decode cX12_odds 0 = .ok (.aload_n 0, 1) := by decide +kernel
theorem dX12_odds_1 : decode cX12_odds 1 = .ok (.iconst 0, 1) := by decide +kernel
theorem dX12_odds_2 : decode cX12_odds 2 = .ok (.putfield 61, 3) := by decide +kernel
theorem dX12_odds_5 : decode cX12_odds 5 = .ok (.aload_n 0, 1) := by decide +kernel
theorem dX12_odds_6 : decode cX12_odds 6 = .ok (.iload_n 1, 1) := by decide +kernel
theorem dX12_odds_7 : decode cX12_odds 7 = .ok (.invokevirtual 142, 3) := by decide +kernel
theorem dX12_odds_10 : decode cX12_odds 10 = .ok (.ifCond .eq 44, 3) := by decide +kernel
theorem dX12_odds_13 : decode cX12_odds 13 = .ok (.iload_n 2, 1) := by decide +kernel
theorem dX12_odds_14 : decode cX12_odds 14 = .ok (.iconst 0, 1) := by decide +kernel
theorem dX12_odds_15 : decode cX12_odds 15 = .ok (.bipush 100, 2) := by decide +kernel
theorem dX12_odds_17 : decode cX12_odds 17 = .ok (.invokestatic 64, 3) := by decide +kernel
theorem dX12_odds_20 : decode cX12_odds 20 = .ok (.ifCond .eq 34, 3) := by decide +kernel
theorem dX12_odds_23 : decode cX12_odds 23 = .ok (.iload_n 3, 1) := by decide +kernel
theorem dX12_odds_24 : decode cX12_odds 24 = .ok (.iconst 0, 1) := by decide +kernel
theorem dX12_odds_25 : decode cX12_odds 25 = .ok (.bipush 10, 2) := by decide +kernel
theorem dX12_odds_27 : decode cX12_odds 27 = .ok (.invokestatic 64, 3) := by decide +kernel
theorem dX12_odds_30 : decode cX12_odds 30 = .ok (.ifCond .eq 24, 3) := by decide +kernel
theorem dX12_odds_33 : decode cX12_odds 33 = .ok (.iload 4, 2) := by decide +kernel
theorem dX12_odds_35 : decode cX12_odds 35 = .ok (.iconst 0, 1) := by decide +kernel
theorem dX12_odds_36 : decode cX12_odds 36 = .ok (.bipush 9, 2) := by decide +kernel
theorem dX12_odds_38 : decode cX12_odds 38 = .ok (.invokestatic 64, 3) := by decide +kernel
theorem dX12_odds_41 : decode cX12_odds 41 = .ok (.ifCond .eq 13, 3) := by decide +kernel
theorem dX12_odds_44 : decode cX12_odds 44 = .ok (.iload 5, 2) := by decide +kernel
theorem dX12_odds_46 : decode cX12_odds 46 = .ok (.iconst 0, 1) := by decide +kernel
theorem dX12_odds_47 : decode cX12_odds 47 = .ok (.iconst 1, 1) := by decide +kernel
theorem dX12_odds_48 : decode cX12_odds 48 = .ok (.invokestatic 64, 3) := by decide +kernel
theorem dX12_odds_51 : decode cX12_odds 51 = .ok (.ifCond .ne 7, 3) := by decide +kernel
theorem dX12_odds_54 : decode cX12_odds 54 = .ok (.ldc2_w 221, 3) := by decide +kernel
theorem dX12_odds_57 : decode cX12_odds 57 = .ok (.lreturn, 1) := by decide +kernel
theorem dX12_odds_58 : decode cX12_odds 58 = .ok (.iconst 0, 1) := by decide +kernel
theorem dX12_odds_59 : decode cX12_odds 59 = .ok (.istore 6, 2) := by decide +kernel
theorem dX12_odds_61 : decode cX12_odds 61 = .ok (.iload 6, 2) := by decide +kernel
theorem dX12_odds_63 : decode cX12_odds 63 = .ok (.bipush 101, 2) := by decide +kernel
theorem dX12_odds_65 : decode cX12_odds 65 = .ok (.if_icmp .ge 34, 3) := by decide +kernel
theorem dX12_odds_68 : decode cX12_odds 68 = .ok (.aload_n 0, 1) := by decide +kernel
theorem dX12_odds_69 : decode cX12_odds 69 = .ok (.getfield 47, 3) := by decide +kernel
theorem dX12_odds_72 : decode cX12_odds 72 = .ok (.iload 6, 2) := by decide +kernel
theorem dX12_odds_74 : decode cX12_odds 74 = .ok (.iload 6, 2) := by decide +kernel
theorem dX12_odds_76 : decode cX12_odds 76 = .ok (.aload_n 0, 1) := by decide +kernel
theorem dX12_odds_77 : decode cX12_odds 77 = .ok (.getfield 22, 3) := by decide +kernel
theorem dX12_odds_80 : decode cX12_odds 80 = .ok (.iconst 4, 1) := by decide +kernel
theorem dX12_odds_81 : decode cX12_odds 81 = .ok (.iload_n 1, 1) := by decide +kernel
theorem dX12_odds_82 : decode cX12_odds 82 = .ok (.iadd, 1) := by decide +kernel
theorem dX12_odds_83 : decode cX12_odds 83 = .ok (.iaload, 1) := by decide +kernel
theorem dX12_odds_84 : decode cX12_odds 84 = .ok (.if_icmp .ne 7, 3) := by decide +kernel
theorem dX12_odds_87 : decode cX12_odds 87 = .ok (.lconst 1, 1) := by decide +kernel
theorem dX12_odds_88 : decode cX12_odds 88 = .ok (.goto 4, 3) := by decide +kernel
theorem dX12_odds_91 : decode cX12_odds 91 = .ok (.lconst 0, 1) := by decide +kernel
theorem dX12_odds_92 : decode cX12_odds 92 = .ok (.lastore, 1) := by decide +kernel
theorem dX12_odds_93 : decode cX12_odds 93 = .ok (.iinc 6 1, 3) := by decide +kernel
theorem dX12_odds_96 : decode cX12_odds 96 = .ok (.goto (-35), 3) := by decide +kernel
theorem dX12_odds_99 : decode cX12_odds 99 = .ok (.lconst 1, 1) := by decide +kernel
theorem dX12_odds_100 : decode cX12_odds 100 = .ok (.lstore 6, 2) := by decide +kernel
theorem dX12_odds_102 : decode cX12_odds 102 = .ok (.iconst 0, 1) := by decide +kernel
theorem dX12_odds_103 : decode cX12_odds 103 = .ok (.istore 8, 2) := by decide +kernel
theorem dX12_odds_105 : decode cX12_odds 105 = .ok (.iload 8, 2) := by decide +kernel
theorem dX12_odds_107 : decode cX12_odds 107 = .ok (.iload 4, 2) := by decide +kernel
theorem dX12_odds_109 : decode cX12_odds 109 = .ok (.if_icmp .ge 23, 3) := by decide +kernel
theorem dX12_odds_112 : decode cX12_odds 112 = .ok (.aload_n 0, 1) := by decide +kernel
theorem dX12_odds_113 : decode cX12_odds 113 = .ok (.iload_n 1, 1) := by decide +kernel
theorem dX12_odds_114 : decode cX12_odds 114 = .ok (.iload_n 3, 1) := by decide +kernel
theorem dX12_odds_115 : decode cX12_odds 115 = .ok (.invokevirtual 223, 3) := by decide +kernel
theorem dX12_odds_118 : decode cX12_odds 118 = .ok (.lload 6, 2) := by decide +kernel
theorem dX12_odds_120 : decode cX12_odds 120 = .ok (.ldc2_w 226, 3) := by decide +kernel
theorem dX12_odds_123 : decode cX12_odds 123 = .ok (.lmul, 1) := by decide +kernel
theorem dX12_odds_124 : decode cX12_odds 124 = .ok (.lstore 6, 2) := by decide +kernel
theorem dX12_odds_126 : decode cX12_odds 126 = .ok (.iinc 8 1, 3) := by decide +kernel
theorem dX12_odds_129 : decode cX12_odds 129 = .ok (.goto (-24), 3) := by decide +kernel
theorem dX12_odds_132 : decode cX12_odds 132 = .ok (.lconst 0, 1) := by decide +kernel
theorem dX12_odds_133 : decode cX12_odds 133 = .ok (.lstore 8, 2) := by decide +kernel
theorem dX12_odds_135 : decode cX12_odds 135 = .ok (.iload_n 2, 1) := by decide +kernel
theorem dX12_odds_136 : decode cX12_odds 136 = .ok (.istore 10, 2) := by decide +kernel
theorem dX12_odds_138 : decode cX12_odds 138 = .ok (.iload 10, 2) := by decide +kernel
theorem dX12_odds_140 : decode cX12_odds 140 = .ok (.bipush 101, 2) := by decide +kernel
theorem dX12_odds_142 : decode cX12_odds 142 = .ok (.if_icmp .ge 21, 3) := by decide +kernel
theorem dX12_odds_145 : decode cX12_odds 145 = .ok (.lload 8, 2) := by decide +kernel
theorem dX12_odds_147 : decode cX12_odds 147 = .ok (.aload_n 0, 1) := by decide +kernel
theorem dX12_odds_148 : decode cX12_odds 148 = .ok (.getfield 47, 3) := by decide +kernel
theorem dX12_odds_151 : decode cX12_odds 151 = .ok (.iload 10, 2) := by decide +kernel
theorem dX12_odds_153 : decode cX12_odds 153 = .ok (.laload, 1) := by decide +kernel
theorem dX12_odds_154 : decode cX12_odds 154 = .ok (.ladd, 1) := by decide +kernel
theorem dX12_odds_155 : decode cX12_odds 155 = .ok (.lstore 8, 2) := by decide +kernel
theorem dX12_odds_157 : decode cX12_odds 157 = .ok (.iinc 10 1, 3) := by decide +kernel
theorem dX12_odds_160 : decode cX12_odds 160 = .ok (.goto (-22), 3) := by decide +kernel
theorem dX12_odds_163 : decode cX12_odds 163 = .ok (.lload 8, 2) := by decide +kernel
theorem dX12_odds_165 : decode cX12_odds 165 = .ok (.lload 6, 2) := by decide +kernel
theorem dX12_odds_167 : decode cX12_odds 167 = .ok (.invokestatic 228, 3) := by decide +kernel
theorem dX12_odds_170 : decode cX12_odds 170 = .ok (.lstore 10, 2) := by decide +kernel
theorem dX12_odds_172 : decode cX12_odds 172 = .ok (.iload 5, 2) := by decide +kernel
theorem dX12_odds_174 : decode cX12_odds 174 = .ok (.ifCond .ne 11, 3) := by decide +kernel
theorem dX12_odds_177 : decode cX12_odds 177 = .ok (.lload 8, 2) := by decide +kernel
theorem dX12_odds_179 : decode cX12_odds 179 = .ok (.lload 10, 2) := by decide +kernel
theorem dX12_odds_181 : decode cX12_odds 181 = .ok (.ldiv, 1) := by decide +kernel
theorem dX12_odds_182 : decode cX12_odds 182 = .ok (.goto 8, 3) := by decide +kernel
theorem dX12_odds_185 : decode cX12_odds 185 = .ok (.lload 6, 2) := by decide +kernel
theorem dX12_odds_187 : decode cX12_odds 187 = .ok (.lload 10, 2) := by decide +kernel
theorem dX12_odds_189 : decode cX12_odds 189 = .ok (.ldiv, 1) := by decide +kernel
theorem dX12_odds_190 : decode cX12_odds 190 = .ok (.lreturn, 1) := by decide +kernel
theorem dX12_rate_0 : decode cX12_rate 0 = .ok (.aload_n 0, 1) := by decide +kernel
theorem dX12_rate_1 : decode cX12_rate 1 = .ok (.iconst 0, 1) := by decide +kernel
theorem dX12_rate_2 : decode cX12_rate 2 = .ok (.putfield 61, 3) := by decide +kernel
theorem dX12_rate_5 : decode cX12_rate 5 = .ok (.iload_n 1, 1) := by decide +kernel
theorem dX12_rate_6 : decode cX12_rate 6 = .ok (.iconst 0, 1) := by decide +kernel
theorem dX12_rate_7 : decode cX12_rate 7 = .ok (.iconst 5, 1) := by decide +kernel
theorem dX12_rate_8 : decode cX12_rate 8 = .ok (.invokestatic 64, 3) := by decide +kernel
theorem dX12_rate_11 : decode cX12_rate 11 = .ok (.ifCond .eq 11, 3) := by decide +kernel
theorem dX12_rate_14 : decode cX12_rate 14 = .ok (.aload_n 0, 1) := by decide +kernel
theorem dX12_rate_15 : decode cX12_rate 15 = .ok (.iload_n 2, 1) := by decide +kernel
theorem dX12_rate_16 : decode cX12_rate 16 = .ok (.invokevirtual 142, 3) := by decide +kernel
theorem dX12_rate_19 : decode cX12_rate 19 = .ok (.ifCond .ne 6, 3) := by decide +kernel
theorem dX12_rate_22 : decode cX12_rate 22 = .ok (.ldc 232, 2) := by decide +kernel
theorem dX12_rate_24 : decode cX12_rate 24 = .ok (.ireturn, 1) := by decide +kernel
theorem dX12_rate_25 : decode cX12_rate 25 = .ok (.aload_n 0, 1) := by decide +kernel
theorem dX12_rate_26 : decode cX12_rate 26 = .ok (.getfield 22, 3) := by decide +kernel
theorem dX12_rate_29 : decode cX12_rate 29 = .ok (.iconst 4, 1) := by decide +kernel
theorem dX12_rate_30 : decode cX12_rate 30 = .ok (.iload_n 2, 1) := by decide +kernel
theorem dX12_rate_31 : decode cX12_rate 31 = .ok (.iadd, 1) := by decide +kernel
theorem dX12_rate_32 : decode cX12_rate 32 = .ok (.iaload, 1) := by decide +kernel
theorem dX12_rate_33 : decode cX12_rate 33 = .ok (.istore_n 3, 1) := by decide +kernel
theorem dX12_rate_34 : decode cX12_rate 34 = .ok (.iload_n 3, 1) := by decide +kernel
theorem dX12_rate_35 : decode cX12_rate 35 = .ok (.istore 4, 2) := by decide +kernel
theorem dX12_rate_37 : decode cX12_rate 37 = .ok (.iconst 0, 1) := by decide +kernel
theorem dX12_rate_38 : decode cX12_rate 38 = .ok (.istore 5, 2) := by decide +kernel
theorem dX12_rate_40 : decode cX12_rate 40 = .ok (.iload 5, 2) := by decide +kernel
theorem dX12_rate_42 : decode cX12_rate 42 = .ok (.aload_n 0, 1) := by decide +kernel
theorem dX12_rate_43 : decode cX12_rate 43 = .ok (.getfield 130, 3) := by decide +kernel
theorem dX12_rate_46 : decode cX12_rate 46 = .ok (.if_icmp .ge 32, 3) := by decide +kernel
theorem dX12_rate_49 : decode cX12_rate 49 = .ok (.iload 4, 2) := by decide +kernel
theorem dX12_rate_51 : decode cX12_rate 51 = .ok (.aload_n 0, 1) := by decide +kernel
theorem dX12_rate_52 : decode cX12_rate 52 = .ok (.getfield 16, 3) := by decide +kernel
theorem dX12_rate_55 : decode cX12_rate 55 = .ok (.iconst 3, 1) := by decide +kernel
theorem dX12_rate_56 : decode cX12_rate 56 = .ok (.iload 5, 2) := by decide +kernel
theorem dX12_rate_58 : decode cX12_rate 58 = .ok (.imul, 1) := by decide +kernel
theorem dX12_rate_59 : decode cX12_rate 59 = .ok (.iaload, 1) := by decide +kernel
theorem dX12_rate_60 : decode cX12_rate 60 = .ok (.iload_n 2, 1) := by decide +kernel
theorem dX12_rate_61 : decode cX12_rate 61 = .ok (.if_icmp .ne 7, 3) := by decide +kernel
theorem dX12_rate_64 : decode cX12_rate 64 = .ok (.iconst 1, 1) := by decide +kernel
theorem dX12_rate_65 : decode cX12_rate 65 = .ok (.goto 4, 3) := by decide +kernel
theorem dX12_rate_68 : decode cX12_rate 68 = .ok (.iconst 0, 1) := by decide +kernel
theorem dX12_rate_69 : decode cX12_rate 69 = .ok (.iadd, 1) := by decide +kernel
theorem dX12_rate_70 : decode cX12_rate 70 = .ok (.istore 4, 2) := by decide +kernel
theorem dX12_rate_72 : decode cX12_rate 72 = .ok (.iinc 5 1, 3) := by decide +kernel
theorem dX12_rate_75 : decode cX12_rate 75 = .ok (.goto (-35), 3) := by decide +kernel
theorem dX12_rate_78 : decode cX12_rate 78 = .ok (.iload_n 3, 1) := by decide +kernel
theorem dX12_rate_79 : decode cX12_rate 79 = .ok (.aload_n 0, 1) := by decide +kernel
theorem dX12_rate_80 : decode cX12_rate 80 = .ok (.getfield 13, 3) := by decide +kernel
theorem dX12_rate_83 : decode cX12_rate 83 = .ok (.iconst 3, 1) := by decide +kernel
theorem dX12_rate_84 : decode cX12_rate 84 = .ok (.iload_n 2, 1) := by decide +kernel
theorem dX12_rate_85 : decode cX12_rate 85 = .ok (.imul, 1) := by decide +kernel
theorem dX12_rate_86 : decode cX12_rate 86 = .ok (.iconst 2, 1) := by decide +kernel
theorem dX12_rate_87 : decode cX12_rate 87 = .ok (.iadd, 1) := by decide +kernel
theorem dX12_rate_88 : decode cX12_rate 88 = .ok (.iaload, 1) := by decide +kernel
theorem dX12_rate_89 : decode cX12_rate 89 = .ok (.isub, 1) := by decide +kernel
theorem dX12_rate_90 : decode cX12_rate 90 = .ok (.istore 5, 2) := by decide +kernel
theorem dX12_rate_92 : decode cX12_rate 92 = .ok (.aload_n 0, 1) := by decide +kernel
theorem dX12_rate_93 : decode cX12_rate 93 = .ok (.dup, 1) := by decide +kernel
theorem dX12_rate_94 : decode cX12_rate 94 = .ok (.getfield 233, 3) := by decide +kernel
theorem dX12_rate_97 : decode cX12_rate 97 = .ok (.iload_n 1, 1) := by decide +kernel
theorem dX12_rate_98 : decode cX12_rate 98 = .ok (.ifCond .ne 7, 3) := by decide +kernel
theorem dX12_rate_101 : decode cX12_rate 101 = .ok (.lconst 1, 1) := by decide +kernel
theorem dX12_rate_102 : decode cX12_rate 102 = .ok (.goto 50, 3) := by decide +kernel
theorem dX12_rate_105 : decode cX12_rate 105 = .ok (.iload_n 1, 1) := by decide +kernel
theorem dX12_rate_106 : decode cX12_rate 106 = .ok (.iconst 1, 1) := by decide +kernel
theorem dX12_rate_107 : decode cX12_rate 107 = .ok (.if_icmp .ne 9, 3) := by decide +kernel
theorem dX12_rate_110 : decode cX12_rate 110 = .ok (.ldc2_w 237, 3) := by decide +kernel
theorem dX12_rate_113 : decode cX12_rate 113 = .ok (.goto 39, 3) := by decide +kernel
theorem dX12_rate_116 : decode cX12_rate 116 = .ok (.iload_n 1, 1) := by decide +kernel
theorem dX12_rate_117 : decode cX12_rate 117 = .ok (.iconst 2, 1) := by decide +kernel
theorem dX12_rate_118 : decode cX12_rate 118 = .ok (.if_icmp .ne 9, 3) := by decide +kernel
theorem dX12_rate_121 : decode cX12_rate 121 = .ok (.ldc2_w 239, 3) := by decide +kernel
theorem dX12_rate_124 : decode cX12_rate 124 = .ok (.goto 28, 3) := by decide +kernel
theorem dX12_rate_127 : decode cX12_rate 127 = .ok (.iload_n 1, 1) := by decide +kernel
theorem dX12_rate_128 : decode cX12_rate 128 = .ok (.iconst 3, 1) := by decide +kernel
theorem dX12_rate_129 : decode cX12_rate 129 = .ok (.if_icmp .ne 9, 3) := by decide +kernel
theorem dX12_rate_132 : decode cX12_rate 132 = .ok (.ldc2_w 241, 3) := by decide +kernel
theorem dX12_rate_135 : decode cX12_rate 135 = .ok (.goto 17, 3) := by decide +kernel
theorem dX12_rate_138 : decode cX12_rate 138 = .ok (.iload_n 1, 1) := by decide +kernel
theorem dX12_rate_139 : decode cX12_rate 139 = .ok (.iconst 4, 1) := by decide +kernel
theorem dX12_rate_140 : decode cX12_rate 140 = .ok (.if_icmp .ne 9, 3) := by decide +kernel
theorem dX12_rate_143 : decode cX12_rate 143 = .ok (.ldc2_w 243, 3) := by decide +kernel
theorem dX12_rate_146 : decode cX12_rate 146 = .ok (.goto 6, 3) := by decide +kernel
theorem dX12_rate_149 : decode cX12_rate 149 = .ok (.ldc2_w 245, 3) := by decide +kernel
theorem dX12_rate_152 : decode cX12_rate 152 = .ok (.ladd, 1) := by decide +kernel
theorem dX12_rate_153 : decode cX12_rate 153 = .ok (.putfield 233, 3) := by decide +kernel
theorem dX12_rate_156 : decode cX12_rate 156 = .ok (.iload_n 1, 1) := by decide +kernel
theorem dX12_rate_157 : decode cX12_rate 157 = .ok (.ifCond .ne 7, 3) := by decide +kernel
theorem dX12_rate_160 : decode cX12_rate 160 = .ok (.iload_n 3, 1) := by decide +kernel
theorem dX12_rate_161 : decode cX12_rate 161 = .ok (.goto 58, 3) := by decide +kernel
theorem dX12_rate_164 : decode cX12_rate 164 = .ok (.iload_n 1, 1) := by decide +kernel
theorem dX12_rate_165 : decode cX12_rate 165 = .ok (.iconst 1, 1) := by decide +kernel
theorem dX12_rate_166 : decode cX12_rate 166 = .ok (.if_icmp .ne 8, 3) := by decide +kernel
theorem dX12_rate_169 : decode cX12_rate 169 = .ok (.iload 4, 2) := by decide +kernel
theorem dX12_rate_171 : decode cX12_rate 171 = .ok (.goto 48, 3) := by decide +kernel
theorem dX12_rate_174 : decode cX12_rate 174 = .ok (.iload_n 1, 1) := by decide +kernel
theorem dX12_rate_175 : decode cX12_rate 175 = .ok (.iconst 2, 1) := by decide +kernel
theorem dX12_rate_176 : decode cX12_rate 176 = .ok (.if_icmp .ne 8, 3) := by decide +kernel
theorem dX12_rate_179 : decode cX12_rate 179 = .ok (.iload 5, 2) := by decide +kernel
theorem dX12_rate_181 : decode cX12_rate 181 = .ok (.goto 38, 3) := by decide +kernel
theorem dX12_rate_184 : decode cX12_rate 184 = .ok (.iload_n 1, 1) := by decide +kernel
theorem dX12_rate_185 : decode cX12_rate 185 = .ok (.iconst 3, 1) := by decide +kernel
theorem dX12_rate_186 : decode cX12_rate 186 = .ok (.if_icmp .ne 10, 3) := by decide +kernel
theorem dX12_rate_189 : decode cX12_rate 189 = .ok (.iconst 2, 1) := by decide +kernel
theorem dX12_rate_190 : decode cX12_rate 190 = .ok (.iload 4, 2) := by decide +kernel
theorem dX12_rate_192 : decode cX12_rate 192 = .ok (.imul, 1) := by decide +kernel
theorem dX12_rate_193 : decode cX12_rate 193 = .ok (.goto 26, 3) := by decide +kernel
theorem dX12_rate_196 : decode cX12_rate 196 = .ok (.iload_n 1, 1) := by decide +kernel
theorem dX12_rate_197 : decode cX12_rate 197 = .ok (.iconst 4, 1) := by decide +kernel
theorem dX12_rate_198 : decode cX12_rate 198 = .ok (.if_icmp .ne 10, 3) := by decide +kernel
theorem dX12_rate_201 : decode cX12_rate 201 = .ok (.iload 5, 2) := by decide +kernel
theorem dX12_rate_203 : decode cX12_rate 203 = .ok (.iload_n 2, 1) := by decide +kernel
theorem dX12_rate_204 : decode cX12_rate 204 = .ok (.iadd, 1) := by decide +kernel
theorem dX12_rate_205 : decode cX12_rate 205 = .ok (.goto 14, 3) := by decide +kernel
theorem dX12_rate_208 : decode cX12_rate 208 = .ok (.iload_n 3, 1) := by decide +kernel
theorem dX12_rate_209 : decode cX12_rate 209 = .ok (.aload_n 0, 1) := by decide +kernel
theorem dX12_rate_210 : decode cX12_rate 210 = .ok (.getfield 22, 3) := by decide +kernel
theorem dX12_rate_213 : decode cX12_rate 213 = .ok (.bipush 9, 2) := by decide +kernel
theorem dX12_rate_215 : decode cX12_rate 215 = .ok (.iload_n 2, 1) := by decide +kernel
theorem dX12_rate_216 : decode cX12_rate 216 = .ok (.iadd, 1) := by decide +kernel
theorem dX12_rate_217 : decode cX12_rate 217 = .ok (.iaload, 1) := by decide +kernel
theorem dX12_rate_218 : decode cX12_rate 218 = .ok (.iadd, 1) := by decide +kernel
theorem dX12_rate_219 : decode cX12_rate 219 = .ok (.ireturn, 1) := by decide +kernel
theorem dX12_keep_0 : decode cX12_keep 0 = .ok (.aload_n 0, 1) := by decide +kernel
theorem dX12_keep_1 : decode cX12_keep 1 = .ok (.iconst 0, 1) := by decide +kernel
theorem dX12_keep_2 : decode cX12_keep 2 = .ok (.putfield 61, 3) := by decide +kernel
theorem dX12_keep_5 : decode cX12_keep 5 = .ok (.iload_n 1, 1) := by decide +kernel
theorem dX12_keep_6 : decode cX12_keep 6 = .ok (.iconst 0, 1) := by decide +kernel
theorem dX12_keep_7 : decode cX12_keep 7 = .ok (.iconst 1, 1) := by decide +kernel
theorem dX12_keep_8 : decode cX12_keep 8 = .ok (.invokestatic 64, 3) := by decide +kernel
theorem dX12_keep_11 : decode cX12_keep 11 = .ok (.ifCond .ne 5, 3) := by decide +kernel
theorem dX12_keep_14 : decode cX12_keep 14 = .ok (.iconst (-1), 1) := by decide +kernel
theorem dX12_keep_15 : decode cX12_keep 15 = .ok (.ireturn, 1) := by decide +kernel
theorem dX12_keep_16 : decode cX12_keep 16 = .ok (.iconst 0, 1) := by decide +kernel
theorem dX12_keep_17 : decode cX12_keep 17 = .ok (.istore_n 2, 1) := by decide +kernel
theorem dX12_keep_18 : decode cX12_keep 18 = .ok (.iload_n 2, 1) := by decide +kernel
theorem dX12_keep_19 : decode cX12_keep 19 = .ok (.bipush 14, 2) := by decide +kernel
theorem dX12_keep_21 : decode cX12_keep 21 = .ok (.if_icmp .ge 26, 3) := by decide +kernel
theorem dX12_keep_24 : decode cX12_keep 24 = .ok (.aload_n 0, 1) := by decide +kernel
theorem dX12_keep_25 : decode cX12_keep 25 = .ok (.getfield 28, 3) := by decide +kernel
theorem dX12_keep_28 : decode cX12_keep 28 = .ok (.bipush 14, 2) := by decide +kernel
theorem dX12_keep_30 : decode cX12_keep 30 = .ok (.iload_n 1, 1) := by decide +kernel
theorem dX12_keep_31 : decode cX12_keep 31 = .ok (.imul, 1) := by decide +kernel
theorem dX12_keep_32 : decode cX12_keep 32 = .ok (.iload_n 2, 1) := by decide +kernel
theorem dX12_keep_33 : decode cX12_keep 33 = .ok (.iadd, 1) := by decide +kernel
theorem dX12_keep_34 : decode cX12_keep 34 = .ok (.aload_n 0, 1) := by decide +kernel
theorem dX12_keep_35 : decode cX12_keep 35 = .ok (.getfield 22, 3) := by decide +kernel
theorem dX12_keep_38 : decode cX12_keep 38 = .ok (.iload_n 2, 1) := by decide +kernel
theorem dX12_keep_39 : decode cX12_keep 39 = .ok (.iaload, 1) := by decide +kernel
theorem dX12_keep_40 : decode cX12_keep 40 = .ok (.iastore, 1) := by decide +kernel
theorem dX12_keep_41 : decode cX12_keep 41 = .ok (.iinc 2 1, 3) := by decide +kernel
theorem dX12_keep_44 : decode cX12_keep 44 = .ok (.goto (-26), 3) := by decide +kernel
theorem dX12_keep_47 : decode cX12_keep 47 = .ok (.aload_n 0, 1) := by decide +kernel
theorem dX12_keep_48 : decode cX12_keep 48 = .ok (.getfield 31, 3) := by decide +kernel
theorem dX12_keep_51 : decode cX12_keep 51 = .ok (.iload_n 1, 1) := by decide +kernel
theorem dX12_keep_52 : decode cX12_keep 52 = .ok (.iconst 1, 1) := by decide +kernel
theorem dX12_keep_53 : decode cX12_keep 53 = .ok (.bastore, 1) := by decide +kernel
theorem dX12_keep_54 : decode cX12_keep 54 = .ok (.aload_n 0, 1) := by decide +kernel
theorem dX12_keep_55 : decode cX12_keep 55 = .ok (.getfield 22, 3) := by decide +kernel
theorem dX12_keep_58 : decode cX12_keep 58 = .ok (.iconst 0, 1) := by decide +kernel
theorem dX12_keep_59 : decode cX12_keep 59 = .ok (.iaload, 1) := by decide +kernel
theorem dX12_keep_60 : decode cX12_keep 60 = .ok (.ireturn, 1) := by decide +kernel
theorem dX12_back_0 : decode cX12_back 0 = .ok (.aload_n 0, 1) := by decide +kernel
theorem dX12_back_1 : decode cX12_back 1 = .ok (.iconst 0, 1) := by decide +kernel
theorem dX12_back_2 : decode cX12_back 2 = .ok (.putfield 61, 3) := by decide +kernel
theorem dX12_back_5 : decode cX12_back 5 = .ok (.iload_n 1, 1) := by decide +kernel
theorem dX12_back_6 : decode cX12_back 6 = .ok (.iconst 0, 1) := by decide +kernel
theorem dX12_back_7 : decode cX12_back 7 = .ok (.iconst 1, 1) := by decide +kernel
theorem dX12_back_8 : decode cX12_back 8 = .ok (.invokestatic 64, 3) := by decide +kernel
theorem dX12_back_11 : decode cX12_back 11 = .ok (.ifCond .ne 5, 3) := by decide +kernel
theorem dX12_back_14 : decode cX12_back 14 = .ok (.iconst (-1), 1) := by decide +kernel
theorem dX12_back_15 : decode cX12_back 15 = .ok (.ireturn, 1) := by decide +kernel
theorem dX12_back_16 : decode cX12_back 16 = .ok (.aload_n 0, 1) := by decide +kernel
theorem dX12_back_17 : decode cX12_back 17 = .ok (.getfield 31, 3) := by decide +kernel
theorem dX12_back_20 : decode cX12_back 20 = .ok (.iload_n 1, 1) := by decide +kernel
theorem dX12_back_21 : decode cX12_back 21 = .ok (.baload, 1) := by decide +kernel
theorem dX12_back_22 : decode cX12_back 22 = .ok (.ifCond .ne 6, 3) := by decide +kernel
theorem dX12_back_25 : decode cX12_back 25 = .ok (.bipush (-2), 2) := by decide +kernel
theorem dX12_back_27 : decode cX12_back 27 = .ok (.ireturn, 1) := by decide +kernel
theorem dX12_back_28 : decode cX12_back 28 = .ok (.iconst 0, 1) := by decide +kernel
theorem dX12_back_29 : decode cX12_back 29 = .ok (.istore_n 2, 1) := by decide +kernel
theorem dX12_back_30 : decode cX12_back 30 = .ok (.iload_n 2, 1) := by decide +kernel
theorem dX12_back_31 : decode cX12_back 31 = .ok (.bipush 14, 2) := by decide +kernel
theorem dX12_back_33 : decode cX12_back 33 = .ok (.if_icmp .ge 26, 3) := by decide +kernel
theorem dX12_back_36 : decode cX12_back 36 = .ok (.aload_n 0, 1) := by decide +kernel
theorem dX12_back_37 : decode cX12_back 37 = .ok (.getfield 22, 3) := by decide +kernel
theorem dX12_back_40 : decode cX12_back 40 = .ok (.iload_n 2, 1) := by decide +kernel
theorem dX12_back_41 : decode cX12_back 41 = .ok (.aload_n 0, 1) := by decide +kernel
theorem dX12_back_42 : decode cX12_back 42 = .ok (.getfield 28, 3) := by decide +kernel
theorem dX12_back_45 : decode cX12_back 45 = .ok (.bipush 14, 2) := by decide +kernel
theorem dX12_back_47 : decode cX12_back 47 = .ok (.iload_n 1, 1) := by decide +kernel
theorem dX12_back_48 : decode cX12_back 48 = .ok (.imul, 1) := by decide +kernel
theorem dX12_back_49 : decode cX12_back 49 = .ok (.iload_n 2, 1) := by decide +kernel
theorem dX12_back_50 : decode cX12_back 50 = .ok (.iadd, 1) := by decide +kernel
theorem dX12_back_51 : decode cX12_back 51 = .ok (.iaload, 1) := by decide +kernel
theorem dX12_back_52 : decode cX12_back 52 = .ok (.iastore, 1) := by decide +kernel
theorem dX12_back_53 : decode cX12_back 53 = .ok (.iinc 2 1, 3) := by decide +kernel
theorem dX12_back_56 : decode cX12_back 56 = .ok (.goto (-26), 3) := by decide +kernel
theorem dX12_back_59 : decode cX12_back 59 = .ok (.aload_n 0, 1) := by decide +kernel
theorem dX12_back_60 : decode cX12_back 60 = .ok (.iconst 0, 1) := by decide +kernel
theorem dX12_back_61 : decode cX12_back 61 = .ok (.putfield 136, 3) := by decide +kernel
theorem dX12_back_64 : decode cX12_back 64 = .ok (.aload_n 0, 1) := by decide +kernel
theorem dX12_back_65 : decode cX12_back 65 = .ok (.getfield 22, 3) := by decide +kernel
theorem dX12_back_68 : decode cX12_back 68 = .ok (.iconst 0, 1) := by decide +kernel
theorem dX12_back_69 : decode cX12_back 69 = .ok (.iaload, 1) := by decide +kernel
theorem dX12_back_70 : decode cX12_back 70 = .ok (.ireturn, 1) := by decide +kernel
theorem dX12_count_0 : decode cX12_count 0 = .ok (.aload_n 0, 1) := by decide +kernel
theorem dX12_count_1 : decode cX12_count 1 = .ok (.iconst 0, 1) := by decide +kernel
theorem dX12_count_2 : decode cX12_count 2 = .ok (.putfield 61, 3) := by decide +kernel
theorem dX12_count_5 : decode cX12_count 5 = .ok (.iload_n 1, 1) := by decide +kernel
theorem dX12_count_6 : decode cX12_count 6 = .ok (.iconst 3, 1) := by decide +kernel
theorem dX12_count_7 : decode cX12_count 7 = .ok (.if_icmp .ge 40, 3) := by decide +kernel
theorem dX12_count_10 : decode cX12_count 10 = .ok (.iload_n 1, 1) := by decide +kernel
theorem dX12_count_11 : decode cX12_count 11 = .ok (.ifCond .ne 10, 3) := by decide +kernel
theorem dX12_count_14 : decode cX12_count 14 = .ok (.aload_n 0, 1) := by decide +kernel
theorem dX12_count_15 : decode cX12_count 15 = .ok (.getfield 127, 3) := by decide +kernel
theorem dX12_count_18 : decode cX12_count 18 = .ok (.goto 28, 3) := by decide +kernel
theorem dX12_count_21 : decode cX12_count 21 = .ok (.iload_n 1, 1) := by decide +kernel
theorem dX12_count_22 : decode cX12_count 22 = .ok (.iconst 1, 1) := by decide +kernel
theorem dX12_count_23 : decode cX12_count 23 = .ok (.if_icmp .ne 10, 3) := by decide +kernel
theorem dX12_count_26 : decode cX12_count 26 = .ok (.aload_n 0, 1) := by decide +kernel
theorem dX12_count_27 : decode cX12_count 27 = .ok (.getfield 57, 3) := by decide +kernel
theorem dX12_count_30 : decode cX12_count 30 = .ok (.goto 16, 3) := by decide +kernel
theorem dX12_count_33 : decode cX12_count 33 = .ok (.iload_n 1, 1) := by decide +kernel
theorem dX12_count_34 : decode cX12_count 34 = .ok (.iconst 2, 1) := by decide +kernel
theorem dX12_count_35 : decode cX12_count 35 = .ok (.if_icmp .ne 10, 3) := by decide +kernel
theorem dX12_count_38 : decode cX12_count 38 = .ok (.aload_n 0, 1) := by decide +kernel
theorem dX12_count_39 : decode cX12_count 39 = .ok (.getfield 130, 3) := by decide +kernel
theorem dX12_count_42 : decode cX12_count 42 = .ok (.goto 4, 3) := by decide +kernel
theorem dX12_count_45 : decode cX12_count 45 = .ok (.iconst (-1), 1) := by decide +kernel
theorem dX12_count_46 : decode cX12_count 46 = .ok (.ireturn, 1) := by decide +kernel
theorem dX12_count_47 : decode cX12_count 47 = .ok (.iload_n 1, 1) := by decide +kernel
theorem dX12_count_48 : decode cX12_count 48 = .ok (.iconst 3, 1) := by decide +kernel
theorem dX12_count_49 : decode cX12_count 49 = .ok (.if_icmp .ne 10, 3) := by decide +kernel
theorem dX12_count_52 : decode cX12_count 52 = .ok (.aload_n 0, 1) := by decide +kernel
theorem dX12_count_53 : decode cX12_count 53 = .ok (.getfield 133, 3) := by decide +kernel
theorem dX12_count_56 : decode cX12_count 56 = .ok (.goto 28, 3) := by decide +kernel
theorem dX12_count_59 : decode cX12_count 59 = .ok (.iload_n 1, 1) := by decide +kernel
theorem dX12_count_60 : decode cX12_count 60 = .ok (.iconst 4, 1) := by decide +kernel
theorem dX12_count_61 : decode cX12_count 61 = .ok (.if_icmp .ne 10, 3) := by decide +kernel
theorem dX12_count_64 : decode cX12_count 64 = .ok (.aload_n 0, 1) := by decide +kernel
theorem dX12_count_65 : decode cX12_count 65 = .ok (.getfield 139, 3) := by decide +kernel
theorem dX12_count_68 : decode cX12_count 68 = .ok (.goto 16, 3) := by decide +kernel
theorem dX12_count_71 : decode cX12_count 71 = .ok (.iload_n 1, 1) := by decide +kernel
theorem dX12_count_72 : decode cX12_count 72 = .ok (.iconst 5, 1) := by decide +kernel
theorem dX12_count_73 : decode cX12_count 73 = .ok (.if_icmp .ne 10, 3) := by decide +kernel
theorem dX12_count_76 : decode cX12_count 76 = .ok (.aload_n 0, 1) := by decide +kernel
theorem dX12_count_77 : decode cX12_count 77 = .ok (.getfield 68, 3) := by decide +kernel
theorem dX12_count_80 : decode cX12_count 80 = .ok (.goto 4, 3) := by decide +kernel
theorem dX12_count_83 : decode cX12_count 83 = .ok (.iconst (-1), 1) := by decide +kernel
theorem dX12_count_84 : decode cX12_count 84 = .ok (.ireturn, 1) := by decide +kernel
theorem dX12_trace_0 : decode cX12_trace 0 = .ok (.aload_n 0, 1) := by decide +kernel
theorem dX12_trace_1 : decode cX12_trace 1 = .ok (.iconst 0, 1) := by decide +kernel
theorem dX12_trace_2 : decode cX12_trace 2 = .ok (.putfield 61, 3) := by decide +kernel
theorem dX12_trace_5 : decode cX12_trace 5 = .ok (.aload_n 0, 1) := by decide +kernel
theorem dX12_trace_6 : decode cX12_trace 6 = .ok (.getfield 233, 3) := by decide +kernel
theorem dX12_trace_9 : decode cX12_trace 9 = .ok (.lreturn, 1) := by decide +kernel
