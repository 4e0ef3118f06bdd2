theorem dX12_value_3 : decode cX12_value 3 = .ok (.iconst 0, 1) := by decide +kernel
theorem dX12_value_4 : decode cX12_value 4 = .ok (.putfield 300, 3) := by decide +kernel
theorem dX12_value_7 : decode cX12_value 7 = .ok (.iload_n 1, 1) := by decide +kernel
theorem dX12_value_8 : decode cX12_value 8 = .ok (.ifCond .eq 49, 3) := by decide +kernel
theorem dX12_value_11 : decode cX12_value 11 = .ok (.aload_n 0, 1) := by decide +kernel
theorem dX12_value_12 : decode cX12_value 12 = .ok (.invokevirtual 244, 3) := by decide +kernel
theorem dX12_value_15 : decode cX12_value 15 = .ok (.ifCond .eq 42, 3) := by decide +kernel
theorem dX12_value_18 : decode cX12_value 18 = .ok (.aload_n 0, 1) := by decide +kernel
theorem dX12_value_19 : decode cX12_value 19 = .ok (.getfield 300, 3) := by decide +kernel
theorem dX12_value_22 : decode cX12_value 22 = .ok (.ifCond .ne 7, 3) := by decide +kernel
theorem dX12_value_25 : decode cX12_value 25 = .ok (.aload_n 0, 1) := by decide +kernel
theorem dX12_value_26 : decode cX12_value 26 = .ok (.invokevirtual 304, 3) := by decide +kernel
theorem dX12_value_29 : decode cX12_value 29 = .ok (.aload_n 0, 1) := by decide +kernel
theorem dX12_value_30 : decode cX12_value 30 = .ok (.iconst 0, 1) := by decide +kernel
theorem dX12_value_31 : decode cX12_value 31 = .ok (.putfield 300, 3) := by decide +kernel
theorem dX12_value_34 : decode cX12_value 34 = .ok (.aload_n 0, 1) := by decide +kernel
theorem dX12_value_35 : decode cX12_value 35 = .ok (.invokevirtual 244, 3) := by decide +kernel
theorem dX12_value_38 : decode cX12_value 38 = .ok (.ifCond .eq 14, 3) := by decide +kernel
theorem dX12_value_41 : decode cX12_value 41 = .ok (.aload_n 0, 1) := by decide +kernel
theorem dX12_value_42 : decode cX12_value 42 = .ok (.invokevirtual 307, 3) := by decide +kernel
theorem dX12_value_45 : decode cX12_value 45 = .ok (.ifCond .eq 7, 3) := by decide +kernel
theorem dX12_value_48 : decode cX12_value 48 = .ok (.iconst 1, 1) := by decide +kernel
theorem dX12_value_49 : decode cX12_value 49 = .ok (.goto 4, 3) := by decide +kernel
theorem dX12_value_52 : decode cX12_value 52 = .ok (.iconst 0, 1) := by decide +kernel
theorem dX12_value_53 : decode cX12_value 53 = .ok (.istore_n 1, 1) := by decide +kernel
theorem dX12_value_54 : decode cX12_value 54 = .ok (.goto (-47), 3) := by decide +kernel
theorem dX12_value_57 : decode cX12_value 57 = .ok (.aload_n 0, 1) := by decide +kernel
theorem dX12_value_58 : decode cX12_value 58 = .ok (.invokevirtual 244, 3) := by decide +kernel
theorem dX12_value_61 : decode cX12_value 61 = .ok (.ifCond .eq 21, 3) := by decide +kernel
theorem dX12_value_64 : decode cX12_value 64 = .ok (.aload_n 0, 1) := by decide +kernel
theorem dX12_value_65 : decode cX12_value 65 = .ok (.invokevirtual 275, 3) := by decide +kernel
theorem dX12_value_68 : decode cX12_value 68 = .ok (.bipush 91, 2) := by decide +kernel
theorem dX12_value_70 : decode cX12_value 70 = .ok (.if_icmp .ne 12, 3) := by decide +kernel
theorem dX12_value_73 : decode cX12_value 73 = .ok (.aload_n 0, 1) := by decide +kernel
theorem dX12_value_74 : decode cX12_value 74 = .ok (.iconst 1, 1) := by decide +kernel
theorem dX12_value_75 : decode cX12_value 75 = .ok (.aload_n 0, 1) := by decide +kernel
theorem dX12_value_76 : decode cX12_value 76 = .ok (.getfield 235, 3) := by decide +kernel
theorem dX12_value_79 : decode cX12_value 79 = .ok (.invokevirtual 257, 3) := by decide +kernel
theorem dX12_value_82 : decode cX12_value 82 = .ok (.return_, 1) := by decide +kernel
theorem dX12_pieceOfC_0 : decode cX12_pieceOfC 0 = .ok (.aload_n 0, 1) := by decide +kernel
theorem dX12_pieceOfC_1 : decode cX12_pieceOfC 1 = .ok (.invokevirtual 244, 3) := by decide +kernel
theorem dX12_pieceOfC_4 : decode cX12_pieceOfC 4 = .ok (.ifCond .eq 28, 3) := by decide +kernel
theorem dX12_pieceOfC_7 : decode cX12_pieceOfC 7 = .ok (.aload_n 0, 1) := by decide +kernel
theorem dX12_pieceOfC_8 : decode cX12_pieceOfC 8 = .ok (.invokevirtual 261, 3) := by decide +kernel
theorem dX12_pieceOfC_11 : decode cX12_pieceOfC 11 = .ok (.bipush 33, 2) := by decide +kernel
theorem dX12_pieceOfC_13 : decode cX12_pieceOfC 13 = .ok (.if_icmp .eq 12, 3) := by decide +kernel
theorem dX12_pieceOfC_16 : decode cX12_pieceOfC 16 = .ok (.aload_n 0, 1) := by decide +kernel
theorem dX12_pieceOfC_17 : decode cX12_pieceOfC 17 = .ok (.invokevirtual 261, 3) := by decide +kernel
theorem dX12_pieceOfC_20 : decode cX12_pieceOfC 20 = .ok (.bipush 40, 2) := by decide +kernel
theorem dX12_pieceOfC_22 : decode cX12_pieceOfC 22 = .ok (.if_icmp .ne 10, 3) := by decide +kernel
theorem dX12_pieceOfC_25 : decode cX12_pieceOfC 25 = .ok (.aload_n 0, 1) := by decide +kernel
theorem dX12_pieceOfC_26 : decode cX12_pieceOfC 26 = .ok (.invokevirtual 287, 3) := by decide +kernel
theorem dX12_pieceOfC_29 : decode cX12_pieceOfC 29 = .ok (.goto (-29), 3) := by decide +kernel
theorem dX12_pieceOfC_32 : decode cX12_pieceOfC 32 = .ok (.aload_n 0, 1) := by decide +kernel
theorem dX12_pieceOfC_33 : decode cX12_pieceOfC 33 = .ok (.invokevirtual 244, 3) := by decide +kernel
theorem dX12_pieceOfC_36 : decode cX12_pieceOfC 36 = .ok (.ifCond .eq 7, 3) := by decide +kernel
theorem dX12_pieceOfC_39 : decode cX12_pieceOfC 39 = .ok (.aload_n 0, 1) := by decide +kernel
theorem dX12_pieceOfC_40 : decode cX12_pieceOfC 40 = .ok (.invokevirtual 310, 3) := by decide +kernel
theorem dX12_pieceOfC_43 : decode cX12_pieceOfC 43 = .ok (.aload_n 0, 1) := by decide +kernel
theorem dX12_pieceOfC_44 : decode cX12_pieceOfC 44 = .ok (.invokevirtual 244, 3) := by decide +kernel
theorem dX12_pieceOfC_47 : decode cX12_pieceOfC 47 = .ok (.ifCond .ne 4, 3) := by decide +kernel
theorem dX12_pieceOfC_50 : decode cX12_pieceOfC 50 = .ok (.return_, 1) := by decide +kernel
theorem dX12_pieceOfC_51 : decode cX12_pieceOfC 51 = .ok (.aload_n 0, 1) := by decide +kernel
theorem dX12_pieceOfC_52 : decode cX12_pieceOfC 52 = .ok (.invokevirtual 261, 3) := by decide +kernel
theorem dX12_pieceOfC_55 : decode cX12_pieceOfC 55 = .ok (.istore_n 1, 1) := by decide +kernel
theorem dX12_pieceOfC_56 : decode cX12_pieceOfC 56 = .ok (.iload_n 1, 1) := by decide +kernel
theorem dX12_pieceOfC_57 : decode cX12_pieceOfC 57 = .ok (.invokestatic 313, 3) := by decide +kernel
theorem dX12_pieceOfC_60 : decode cX12_pieceOfC 60 = .ok (.ifCond .ne 13, 3) := by decide +kernel
theorem dX12_pieceOfC_63 : decode cX12_pieceOfC 63 = .ok (.aload_n 0, 1) := by decide +kernel
theorem dX12_pieceOfC_64 : decode cX12_pieceOfC 64 = .ok (.iconst 1, 1) := by decide +kernel
theorem dX12_pieceOfC_65 : decode cX12_pieceOfC 65 = .ok (.aload_n 0, 1) := by decide +kernel
theorem dX12_pieceOfC_66 : decode cX12_pieceOfC 66 = .ok (.getfield 235, 3) := by decide +kernel
theorem dX12_pieceOfC_69 : decode cX12_pieceOfC 69 = .ok (.invokevirtual 257, 3) := by decide +kernel
theorem dX12_pieceOfC_72 : decode cX12_pieceOfC 72 = .ok (.return_, 1) := by decide +kernel
theorem dX12_pieceOfC_73 : decode cX12_pieceOfC 73 = .ok (.aload_n 0, 1) := by decide +kernel
theorem dX12_pieceOfC_74 : decode cX12_pieceOfC 74 = .ok (.iload_n 1, 1) := by decide +kernel
theorem dX12_pieceOfC_75 : decode cX12_pieceOfC 75 = .ok (.invokevirtual 265, 3) := by decide +kernel
theorem dX12_pieceOfC_78 : decode cX12_pieceOfC 78 = .ok (.aload_n 0, 1) := by decide +kernel
theorem dX12_pieceOfC_79 : decode cX12_pieceOfC 79 = .ok (.invokevirtual 310, 3) := by decide +kernel
theorem dX12_pieceOfC_82 : decode cX12_pieceOfC 82 = .ok (.aload_n 0, 1) := by decide +kernel
theorem dX12_pieceOfC_83 : decode cX12_pieceOfC 83 = .ok (.invokevirtual 244, 3) := by decide +kernel
theorem dX12_pieceOfC_86 : decode cX12_pieceOfC 86 = .ok (.ifCond .ne 4, 3) := by decide +kernel
theorem dX12_pieceOfC_89 : decode cX12_pieceOfC 89 = .ok (.return_, 1) := by decide +kernel
theorem dX12_pieceOfC_90 : decode cX12_pieceOfC 90 = .ok (.aload_n 0, 1) := by decide +kernel
theorem dX12_pieceOfC_91 : decode cX12_pieceOfC 91 = .ok (.aload_n 0, 1) := by decide +kernel
theorem dX12_pieceOfC_92 : decode cX12_pieceOfC 92 = .ok (.invokevirtual 275, 3) := by decide +kernel
theorem dX12_pieceOfC_95 : decode cX12_pieceOfC 95 = .ok (.iconst 0, 1) := by decide +kernel
theorem dX12_pieceOfC_96 : decode cX12_pieceOfC 96 = .ok (.invokevirtual 284, 3) := by decide +kernel
theorem dX12_pieceOfC_99 : decode cX12_pieceOfC 99 = .ok (.aload_n 0, 1) := by decide +kernel
theorem dX12_pieceOfC_100 : decode cX12_pieceOfC 100 = .ok (.dup, 1) := by decide +kernel
theorem dX12_pieceOfC_101 : decode cX12_pieceOfC 101 = .ok (.getfield 251, 3) := by decide +kernel
theorem dX12_pieceOfC_104 : decode cX12_pieceOfC 104 = .ok (.iconst 1, 1) := by decide +kernel
theorem dX12_pieceOfC_105 : decode cX12_pieceOfC 105 = .ok (.isub, 1) := by decide +kernel
theorem dX12_pieceOfC_106 : decode cX12_pieceOfC 106 = .ok (.putfield 251, 3) := by decide +kernel
theorem dX12_pieceOfC_109 : decode cX12_pieceOfC 109 = .ok (.aload_n 0, 1) := by decide +kernel
theorem dX12_pieceOfC_110 : decode cX12_pieceOfC 110 = .ok (.invokevirtual 316, 3) := by decide +kernel
theorem dX12_pieceOfC_113 : decode cX12_pieceOfC 113 = .ok (.return_, 1) := by decide +kernel
theorem dX12_goesBehind_0 : decode cX12_goesBehind 0 = .ok (.aload_n 0, 1) := by decide +kernel
theorem dX12_goesBehind_1 : decode cX12_goesBehind 1 = .ok (.invokevirtual 261, 3) := by decide +kernel
theorem dX12_goesBehind_4 : decode cX12_goesBehind 4 = .ok (.istore_n 1, 1) := by decide +kernel
theorem dX12_goesBehind_5 : decode cX12_goesBehind 5 = .ok (.iload_n 1, 1) := by decide +kernel
theorem dX12_goesBehind_6 : decode cX12_goesBehind 6 = .ok (.bipush 38, 2) := by decide +kernel
theorem dX12_goesBehind_8 : decode cX12_goesBehind 8 = .ok (.if_icmp .eq 9, 3) := by decide +kernel
theorem dX12_goesBehind_11 : decode cX12_goesBehind 11 = .ok (.iload_n 1, 1) := by decide +kernel
theorem dX12_goesBehind_12 : decode cX12_goesBehind 12 = .ok (.bipush 124, 2) := by decide +kernel
theorem dX12_goesBehind_14 : decode cX12_goesBehind 14 = .ok (.if_icmp .ne 25, 3) := by decide +kernel
theorem dX12_goesBehind_17 : decode cX12_goesBehind 17 = .ok (.aload_n 0, 1) := by decide +kernel
theorem dX12_goesBehind_18 : decode cX12_goesBehind 18 = .ok (.iload_n 1, 1) := by decide +kernel
theorem dX12_goesBehind_19 : decode cX12_goesBehind 19 = .ok (.bipush 124, 2) := by decide +kernel
theorem dX12_goesBehind_21 : decode cX12_goesBehind 21 = .ok (.if_icmp .ne 7, 3) := by decide +kernel
theorem dX12_goesBehind_24 : decode cX12_goesBehind 24 = .ok (.iconst 1, 1) := by decide +kernel
theorem dX12_goesBehind_25 : decode cX12_goesBehind 25 = .ok (.goto 4, 3) := by decide +kernel
theorem dX12_goesBehind_28 : decode cX12_goesBehind 28 = .ok (.iconst 0, 1) := by decide +kernel
theorem dX12_goesBehind_29 : decode cX12_goesBehind 29 = .ok (.invokevirtual 319, 3) := by decide +kernel
theorem dX12_goesBehind_32 : decode cX12_goesBehind 32 = .ok (.aload_n 0, 1) := by decide +kernel
theorem dX12_goesBehind_33 : decode cX12_goesBehind 33 = .ok (.iload_n 1, 1) := by decide +kernel
theorem dX12_goesBehind_34 : decode cX12_goesBehind 34 = .ok (.invokevirtual 265, 3) := by decide +kernel
theorem dX12_goesBehind_37 : decode cX12_goesBehind 37 = .ok (.iconst 1, 1) := by decide +kernel
theorem dX12_goesBehind_38 : decode cX12_goesBehind 38 = .ok (.ireturn, 1) := by decide +kernel
theorem dX12_goesBehind_39 : decode cX12_goesBehind 39 = .ok (.iload_n 1, 1) := by decide +kernel
theorem dX12_goesBehind_40 : decode cX12_goesBehind 40 = .ok (.bipush 41, 2) := by decide +kernel
theorem dX12_goesBehind_42 : decode cX12_goesBehind 42 = .ok (.if_icmp .eq 14, 3) := by decide +kernel
theorem dX12_goesBehind_45 : decode cX12_goesBehind 45 = .ok (.aload_n 0, 1) := by decide +kernel
theorem dX12_goesBehind_46 : decode cX12_goesBehind 46 = .ok (.iconst 1, 1) := by decide +kernel
theorem dX12_goesBehind_47 : decode cX12_goesBehind 47 = .ok (.aload_n 0, 1) := by decide +kernel
theorem dX12_goesBehind_48 : decode cX12_goesBehind 48 = .ok (.getfield 235, 3) := by decide +kernel
theorem dX12_goesBehind_51 : decode cX12_goesBehind 51 = .ok (.invokevirtual 257, 3) := by decide +kernel
theorem dX12_goesBehind_54 : decode cX12_goesBehind 54 = .ok (.iconst 0, 1) := by decide +kernel
theorem dX12_goesBehind_55 : decode cX12_goesBehind 55 = .ok (.ireturn, 1) := by decide +kernel
theorem dX12_goesBehind_56 : decode cX12_goesBehind 56 = .ok (.aload_n 0, 1) := by decide +kernel
theorem dX12_goesBehind_57 : decode cX12_goesBehind 57 = .ok (.iconst 1, 1) := by decide +kernel
theorem dX12_goesBehind_58 : decode cX12_goesBehind 58 = .ok (.invokevirtual 319, 3) := by decide +kernel
theorem dX12_goesBehind_61 : decode cX12_goesBehind 61 = .ok (.aload_n 0, 1) := by decide +kernel
theorem dX12_goesBehind_62 : decode cX12_goesBehind 62 = .ok (.dup, 1) := by decide +kernel
theorem dX12_goesBehind_63 : decode cX12_goesBehind 63 = .ok (.getfield 251, 3) := by decide +kernel
theorem dX12_goesBehind_66 : decode cX12_goesBehind 66 = .ok (.iconst 1, 1) := by decide +kernel
theorem dX12_goesBehind_67 : decode cX12_goesBehind 67 = .ok (.isub, 1) := by decide +kernel
theorem dX12_goesBehind_68 : decode cX12_goesBehind 68 = .ok (.putfield 251, 3) := by decide +kernel
theorem dX12_goesBehind_71 : decode cX12_goesBehind 71 = .ok (.aload_n 0, 1) := by decide +kernel
theorem dX12_goesBehind_72 : decode cX12_goesBehind 72 = .ok (.dup, 1) := by decide +kernel
theorem dX12_goesBehind_73 : decode cX12_goesBehind 73 = .ok (.getfield 254, 3) := by decide +kernel
theorem dX12_goesBehind_76 : decode cX12_goesBehind 76 = .ok (.iconst 1, 1) := by decide +kernel
theorem dX12_goesBehind_77 : decode cX12_goesBehind 77 = .ok (.isub, 1) := by decide +kernel
theorem dX12_goesBehind_78 : decode cX12_goesBehind 78 = .ok (.putfield 254, 3) := by decide +kernel
theorem dX12_goesBehind_81 : decode cX12_goesBehind 81 = .ok (.aload_n 0, 1) := by decide +kernel
theorem dX12_goesBehind_82 : decode cX12_goesBehind 82 = .ok (.dup, 1) := by decide +kernel
theorem dX12_goesBehind_83 : decode cX12_goesBehind 83 = .ok (.getfield 235, 3) := by decide +kernel
theorem dX12_goesBehind_86 : decode cX12_goesBehind 86 = .ok (.iconst 1, 1) := by decide +kernel
theorem dX12_goesBehind_87 : decode cX12_goesBehind 87 = .ok (.iadd, 1) := by decide +kernel
theorem dX12_goesBehind_88 : decode cX12_goesBehind 88 = .ok (.putfield 235, 3) := by decide +kernel
theorem dX12_goesBehind_91 : decode cX12_goesBehind 91 = .ok (.aload_n 0, 1) := by decide +kernel
theorem dX12_goesBehind_92 : decode cX12_goesBehind 92 = .ok (.aload_n 0, 1) := by decide +kernel
theorem dX12_goesBehind_93 : decode cX12_goesBehind 93 = .ok (.getfield 251, 3) := by decide +kernel
theorem dX12_goesBehind_96 : decode cX12_goesBehind 96 = .ok (.ifCond .ne 7, 3) := by decide +kernel
theorem dX12_goesBehind_99 : decode cX12_goesBehind 99 = .ok (.iconst 1, 1) := by decide +kernel
theorem dX12_goesBehind_100 : decode cX12_goesBehind 100 = .ok (.goto 4, 3) := by decide +kernel
theorem dX12_goesBehind_103 : decode cX12_goesBehind 103 = .ok (.iconst 0, 1) := by decide +kernel
theorem dX12_goesBehind_104 : decode cX12_goesBehind 104 = .ok (.putfield 322, 3) := by decide +kernel
theorem dX12_goesBehind_107 : decode cX12_goesBehind 107 = .ok (.aload_n 0, 1) := by decide +kernel
theorem dX12_goesBehind_108 : decode cX12_goesBehind 108 = .ok (.getfield 322, 3) := by decide +kernel
theorem dX12_goesBehind_111 : decode cX12_goesBehind 111 = .ok (.ifCond .ne 7, 3) := by decide +kernel
theorem dX12_goesBehind_114 : decode cX12_goesBehind 114 = .ok (.aload_n 0, 1) := by decide +kernel
theorem dX12_goesBehind_115 : decode cX12_goesBehind 115 = .ok (.invokevirtual 316, 3) := by decide +kernel
theorem dX12_goesBehind_118 : decode cX12_goesBehind 118 = .ok (.iconst 0, 1) := by decide +kernel
theorem dX12_goesBehind_119 : decode cX12_goesBehind 119 = .ok (.ireturn, 1) := by decide +kernel
theorem dX12_condition_0 : decode cX12_condition 0 = .ok (.aload_n 0, 1) := by decide +kernel
theorem dX12_condition_1 : decode cX12_condition 1 = .ok (.iconst 0, 1) := by decide +kernel
theorem dX12_condition_2 : decode cX12_condition 2 = .ok (.putfield 322, 3) := by decide +kernel
theorem dX12_condition_5 : decode cX12_condition 5 = .ok (.aload_n 0, 1) := by decide +kernel
theorem dX12_condition_6 : decode cX12_condition 6 = .ok (.invokevirtual 261, 3) := by decide +kernel
theorem dX12_condition_9 : decode cX12_condition 9 = .ok (.bipush 40, 2) := by decide +kernel
theorem dX12_condition_11 : decode cX12_condition 11 = .ok (.if_icmp .eq 12, 3) := by decide +kernel
theorem dX12_condition_14 : decode cX12_condition 14 = .ok (.aload_n 0, 1) := by decide +kernel
theorem dX12_condition_15 : decode cX12_condition 15 = .ok (.iconst 1, 1) := by decide +kernel
theorem dX12_condition_16 : decode cX12_condition 16 = .ok (.aload_n 0, 1) := by decide +kernel
theorem dX12_condition_17 : decode cX12_condition 17 = .ok (.getfield 235, 3) := by decide +kernel
theorem dX12_condition_20 : decode cX12_condition 20 = .ok (.invokevirtual 257, 3) := by decide +kernel
theorem dX12_condition_23 : decode cX12_condition 23 = .ok (.aload_n 0, 1) := by decide +kernel
theorem dX12_condition_24 : decode cX12_condition 24 = .ok (.invokevirtual 244, 3) := by decide +kernel
theorem dX12_condition_27 : decode cX12_condition 27 = .ok (.ifCond .ne 4, 3) := by decide +kernel
theorem dX12_condition_30 : decode cX12_condition 30 = .ok (.return_, 1) := by decide +kernel
theorem dX12_condition_31 : decode cX12_condition 31 = .ok (.aload_n 0, 1) := by decide +kernel
theorem dX12_condition_32 : decode cX12_condition 32 = .ok (.invokevirtual 287, 3) := by decide +kernel
theorem dX12_condition_35 : decode cX12_condition 35 = .ok (.iconst 1, 1) := by decide +kernel
theorem dX12_condition_36 : decode cX12_condition 36 = .ok (.istore_n 1, 1) := by decide +kernel
theorem dX12_condition_37 : decode cX12_condition 37 = .ok (.aload_n 0, 1) := by decide +kernel
theorem dX12_condition_38 : decode cX12_condition 38 = .ok (.invokevirtual 244, 3) := by decide +kernel
theorem dX12_condition_41 : decode cX12_condition 41 = .ok (.ifCond .eq 33, 3) := by decide +kernel
theorem dX12_condition_44 : decode cX12_condition 44 = .ok (.aload_n 0, 1) := by decide +kernel
theorem dX12_condition_45 : decode cX12_condition 45 = .ok (.getfield 322, 3) := by decide +kernel
theorem dX12_condition_48 : decode cX12_condition 48 = .ok (.ifCond .ne 26, 3) := by decide +kernel
theorem dX12_condition_51 : decode cX12_condition 51 = .ok (.iload_n 1, 1) := by decide +kernel
theorem dX12_condition_52 : decode cX12_condition 52 = .ok (.ifCond .eq 7, 3) := by decide +kernel
theorem dX12_condition_55 : decode cX12_condition 55 = .ok (.aload_n 0, 1) := by decide +kernel
theorem dX12_condition_56 : decode cX12_condition 56 = .ok (.invokevirtual 325, 3) := by decide +kernel
theorem dX12_condition_59 : decode cX12_condition 59 = .ok (.aload_n 0, 1) := by decide +kernel
theorem dX12_condition_60 : decode cX12_condition 60 = .ok (.invokevirtual 244, 3) := by decide +kernel
theorem dX12_condition_63 : decode cX12_condition 63 = .ok (.ifCond .eq (-26), 3) := by decide +kernel
theorem dX12_condition_66 : decode cX12_condition 66 = .ok (.aload_n 0, 1) := by decide +kernel
theorem dX12_condition_67 : decode cX12_condition 67 = .ok (.invokevirtual 328, 3) := by decide +kernel
theorem dX12_condition_70 : decode cX12_condition 70 = .ok (.istore_n 1, 1) := by decide +kernel
theorem dX12_condition_71 : decode cX12_condition 71 = .ok (.goto (-34), 3) := by decide +kernel
theorem dX12_condition_74 : decode cX12_condition 74 = .ok (.return_, 1) := by decide +kernel
theorem dX12_clause_0 : decode cX12_clause 0 = .ok (.aload_n 0, 1) := by decide +kernel
theorem dX12_clause_1 : decode cX12_clause 1 = .ok (.invokevirtual 261, 3) := by decide +kernel
theorem dX12_clause_4 : decode cX12_clause 4 = .ok (.istore_n 1, 1) := by decide +kernel
theorem dX12_clause_5 : decode cX12_clause 5 = .ok (.iload_n 1, 1) := by decide +kernel
theorem dX12_clause_6 : decode cX12_clause 6 = .ok (.bipush 110, 2) := by decide +kernel
theorem dX12_clause_8 : decode cX12_clause 8 = .ok (.if_icmp .eq 27, 3) := by decide +kernel
theorem dX12_clause_11 : decode cX12_clause 11 = .ok (.iload_n 1, 1) := by decide +kernel
theorem dX12_clause_12 : decode cX12_clause 12 = .ok (.bipush 101, 2) := by decide +kernel
theorem dX12_clause_14 : decode cX12_clause 14 = .ok (.if_icmp .eq 21, 3) := by decide +kernel
theorem dX12_clause_17 : decode cX12_clause 17 = .ok (.iload_n 1, 1) := by decide +kernel
theorem dX12_clause_18 : decode cX12_clause 18 = .ok (.bipush 103, 2) := by decide +kernel
theorem dX12_clause_20 : decode cX12_clause 20 = .ok (.if_icmp .eq 15, 3) := by decide +kernel
theorem dX12_clause_23 : decode cX12_clause 23 = .ok (.aload_n 0, 1) := by decide +kernel
theorem dX12_clause_24 : decode cX12_clause 24 = .ok (.iconst 1, 1) := by decide +kernel
theorem dX12_clause_25 : decode cX12_clause 25 = .ok (.aload_n 0, 1) := by decide +kernel
theorem dX12_clause_26 : decode cX12_clause 26 = .ok (.getfield 235, 3) := by decide +kernel
theorem dX12_clause_29 : decode cX12_clause 29 = .ok (.invokevirtual 257, 3) := by decide +kernel
theorem dX12_clause_32 : decode cX12_clause 32 = .ok (.goto 21, 3) := by decide +kernel
theorem dX12_clause_35 : decode cX12_clause 35 = .ok (.aload_n 0, 1) := by decide +kernel
theorem dX12_clause_36 : decode cX12_clause 36 = .ok (.getfield 331, 3) := by decide +kernel
theorem dX12_clause_39 : decode cX12_clause 39 = .ok (.bipush 14, 2) := by decide +kernel
theorem dX12_clause_41 : decode cX12_clause 41 = .ok (.if_icmp .ne 12, 3) := by decide +kernel
theorem dX12_clause_44 : decode cX12_clause 44 = .ok (.aload_n 0, 1) := by decide +kernel
theorem dX12_clause_45 : decode cX12_clause 45 = .ok (.iconst 4, 1) := by decide +kernel
theorem dX12_clause_46 : decode cX12_clause 46 = .ok (.aload_n 0, 1) := by decide +kernel
theorem dX12_clause_47 : decode cX12_clause 47 = .ok (.getfield 235, 3) := by decide +kernel
theorem dX12_clause_50 : decode cX12_clause 50 = .ok (.invokevirtual 257, 3) := by decide +kernel
theorem dX12_clause_53 : decode cX12_clause 53 = .ok (.aload_n 0, 1) := by decide +kernel
theorem dX12_clause_54 : decode cX12_clause 54 = .ok (.invokevirtual 244, 3) := by decide +kernel
theorem dX12_clause_57 : decode cX12_clause 57 = .ok (.ifCond .ne 4, 3) := by decide +kernel
theorem dX12_clause_60 : decode cX12_clause 60 = .ok (.return_, 1) := by decide +kernel
theorem dX12_clause_61 : decode cX12_clause 61 = .ok (.aload_n 0, 1) := by decide +kernel
theorem dX12_clause_62 : decode cX12_clause 62 = .ok (.getfield 82, 3) := by decide +kernel
theorem dX12_clause_65 : decode cX12_clause 65 = .ok (.aload_n 0, 1) := by decide +kernel
theorem dX12_clause_66 : decode cX12_clause 66 = .ok (.getfield 331, 3) := by decide +kernel
theorem dX12_clause_69 : decode cX12_clause 69 = .ok (.iload_n 1, 1) := by decide +kernel
theorem dX12_clause_70 : decode cX12_clause 70 = .ok (.iastore, 1) := by decide +kernel
theorem dX12_clause_71 : decode cX12_clause 71 = .ok (.aload_n 0, 1) := by decide +kernel
theorem dX12_clause_72 : decode cX12_clause 72 = .ok (.getfield 85, 3) := by decide +kernel
theorem dX12_clause_75 : decode cX12_clause 75 = .ok (.aload_n 0, 1) := by decide +kernel
theorem dX12_clause_76 : decode cX12_clause 76 = .ok (.getfield 331, 3) := by decide +kernel
theorem dX12_clause_79 : decode cX12_clause 79 = .ok (.aload_n 0, 1) := by decide +kernel
theorem dX12_clause_80 : decode cX12_clause 80 = .ok (.getfield 248, 3) := by decide +kernel
theorem dX12_clause_83 : decode cX12_clause 83 = .ok (.iastore, 1) := by decide +kernel
theorem dX12_clause_84 : decode cX12_clause 84 = .ok (.aload_n 0, 1) := by decide +kernel
theorem dX12_clause_85 : decode cX12_clause 85 = .ok (.dup, 1) := by decide +kernel
theorem dX12_clause_86 : decode cX12_clause 86 = .ok (.getfield 235, 3) := by decide +kernel
theorem dX12_clause_89 : decode cX12_clause 89 = .ok (.iconst 1, 1) := by decide +kernel
theorem dX12_clause_90 : decode cX12_clause 90 = .ok (.iadd, 1) := by decide +kernel
theorem dX12_clause_91 : decode cX12_clause 91 = .ok (.putfield 235, 3) := by decide +kernel
theorem dX12_clause_94 : decode cX12_clause 94 = .ok (.aload_n 0, 1) := by decide +kernel
theorem dX12_clause_95 : decode cX12_clause 95 = .ok (.iconst 0, 1) := by decide +kernel
theorem dX12_clause_96 : decode cX12_clause 96 = .ok (.putfield 251, 3) := by decide +kernel
theorem dX12_clause_99 : decode cX12_clause 99 = .ok (.aload_n 0, 1) := by decide +kernel
theorem dX12_clause_100 : decode cX12_clause 100 = .ok (.iconst 0, 1) := by decide +kernel
theorem dX12_clause_101 : decode cX12_clause 101 = .ok (.putfield 254, 3) := by decide +kernel
theorem dX12_clause_104 : decode cX12_clause 104 = .ok (.iload_n 1, 1) := by decide +kernel
theorem dX12_clause_105 : decode cX12_clause 105 = .ok (.bipush 110, 2) := by decide +kernel
theorem dX12_clause_107 : decode cX12_clause 107 = .ok (.if_icmp .eq 7, 3) := by decide +kernel
theorem dX12_clause_110 : decode cX12_clause 110 = .ok (.aload_n 0, 1) := by decide +kernel
theorem dX12_clause_111 : decode cX12_clause 111 = .ok (.invokevirtual 310, 3) := by decide +kernel
theorem dX12_clause_114 : decode cX12_clause 114 = .ok (.aload_n 0, 1) := by decide +kernel
theorem dX12_clause_115 : decode cX12_clause 115 = .ok (.getfield 88, 3) := by decide +kernel
theorem dX12_clause_118 : decode cX12_clause 118 = .ok (.aload_n 0, 1) := by decide +kernel
theorem dX12_clause_119 : decode cX12_clause 119 = .ok (.getfield 331, 3) := by decide +kernel
theorem dX12_clause_122 : decode cX12_clause 122 = .ok (.aload_n 0, 1) := by decide +kernel
theorem dX12_clause_123 : decode cX12_clause 123 = .ok (.getfield 248, 3) := by decide +kernel
theorem dX12_clause_126 : decode cX12_clause 126 = .ok (.iastore, 1) := by decide +kernel
theorem dX12_clause_127 : decode cX12_clause 127 = .ok (.aload_n 0, 1) := by decide +kernel
theorem dX12_clause_128 : decode cX12_clause 128 = .ok (.invokevirtual 244, 3) := by decide +kernel
theorem dX12_clause_131 : decode cX12_clause 131 = .ok (.ifCond .eq 7, 3) := by decide +kernel
theorem dX12_clause_134 : decode cX12_clause 134 = .ok (.aload_n 0, 1) := by decide +kernel
theorem dX12_clause_135 : decode cX12_clause 135 = .ok (.invokevirtual 334, 3) := by decide +kernel
theorem dX12_clause_138 : decode cX12_clause 138 = .ok (.aload_n 0, 1) := by decide +kernel
theorem dX12_clause_139 : decode cX12_clause 139 = .ok (.getfield 91, 3) := by decide +kernel
theorem dX12_clause_142 : decode cX12_clause 142 = .ok (.aload_n 0, 1) := by decide +kernel
theorem dX12_clause_143 : decode cX12_clause 143 = .ok (.getfield 331, 3) := by decide +kernel
theorem dX12_clause_146 : decode cX12_clause 146 = .ok (.aload_n 0, 1) := by decide +kernel
theorem dX12_clause_147 : decode cX12_clause 147 = .ok (.getfield 248, 3) := by decide +kernel
theorem dX12_clause_150 : decode cX12_clause 150 = .ok (.iastore, 1) := by decide +kernel
theorem dX12_clause_151 : decode cX12_clause 151 = .ok (.aload_n 0, 1) := by decide +kernel
theorem dX12_clause_152 : decode cX12_clause 152 = .ok (.dup, 1) := by decide +kernel
theorem dX12_clause_153 : decode cX12_clause 153 = .ok (.getfield 331, 3) := by decide +kernel
theorem dX12_clause_156 : decode cX12_clause 156 = .ok (.iconst 1, 1) := by decide +kernel
theorem dX12_clause_157 : decode cX12_clause 157 = .ok (.iadd, 1) := by decide +kernel
theorem dX12_clause_158 : decode cX12_clause 158 = .ok (.putfield 331, 3) := by decide +kernel
theorem dX12_clause_161 : decode cX12_clause 161 = .ok (.return_, 1) := by decide +kernel
theorem dX12_law_0 : decode cX12_law 0 = .ok (.iload_n 1, 1) := by decide +kernel
theorem dX12_law_1 : decode cX12_law 1 = .ok (.i2l, 1) := by decide +kernel
theorem dX12_law_2 : decode cX12_law 2 = .ok (.lconst 1, 1) := by decide +kernel
theorem dX12_law_3 : decode cX12_law 3 = .ok (.ldc2_w 337, 3) := by decide +kernel
theorem dX12_law_6 : decode cX12_law 6 = .ok (.invokestatic 188, 3) := by decide +kernel
theorem dX12_law_9 : decode cX12_law 9 = .ok (.ifCond .eq 11, 3) := by decide +kernel
theorem dX12_law_12 : decode cX12_law 12 = .ok (.iload_n 1, 1) := by decide +kernel
theorem dX12_law_13 : decode cX12_law 13 = .ok (.aload_n 0, 1) := by decide +kernel
theorem dX12_law_14 : decode cX12_law 14 = .ok (.getfield 228, 3) := by decide +kernel
theorem dX12_law_17 : decode cX12_law 17 = .ok (.if_icmp .le 5, 3) := by decide +kernel
theorem dX12_law_20 : decode cX12_law 20 = .ok (.iconst (-1), 1) := by decide +kernel
theorem dX12_law_21 : decode cX12_law 21 = .ok (.ireturn, 1) := by decide +kernel
theorem dX12_law_22 : decode cX12_law 22 = .ok (.aload_n 0, 1) := by decide +kernel
theorem dX12_law_23 : decode cX12_law 23 = .ok (.iconst 0, 1) := by decide +kernel
theorem dX12_law_24 : decode cX12_law 24 = .ok (.putfield 228, 3) := by decide +kernel
theorem dX12_law_27 : decode cX12_law 27 = .ok (.aload_n 0, 1) := by decide +kernel
theorem dX12_law_28 : decode cX12_law 28 = .ok (.iconst 0, 1) := by decide +kernel
theorem dX12_law_29 : decode cX12_law 29 = .ok (.putfield 235, 3) := by decide +kernel
theorem dX12_law_32 : decode cX12_law 32 = .ok (.aload_n 0, 1) := by decide +kernel
theorem dX12_law_33 : decode cX12_law 33 = .ok (.iload_n 1, 1) := by decide +kernel
theorem dX12_law_34 : decode cX12_law 34 = .ok (.putfield 238, 3) := by decide +kernel
theorem dX12_law_37 : decode cX12_law 37 = .ok (.aload_n 0, 1) := by decide +kernel
theorem dX12_law_38 : decode cX12_law 38 = .ok (.iconst 0, 1) := by decide +kernel
theorem dX12_law_39 : decode cX12_law 39 = .ok (.putfield 241, 3) := by decide +kernel
theorem dX12_law_42 : decode cX12_law 42 = .ok (.aload_n 0, 1) := by decide +kernel
theorem dX12_law_43 : decode cX12_law 43 = .ok (.iconst 0, 1) := by decide +kernel
theorem dX12_law_44 : decode cX12_law 44 = .ok (.putfield 331, 3) := by decide +kernel
theorem dX12_law_47 : decode cX12_law 47 = .ok (.aload_n 0, 1) := by decide +kernel
theorem dX12_law_48 : decode cX12_law 48 = .ok (.iconst 0, 1) := by decide +kernel
theorem dX12_law_49 : decode cX12_law 49 = .ok (.putfield 248, 3) := by decide +kernel
theorem dX12_law_52 : decode cX12_law 52 = .ok (.iconst 1, 1) := by decide +kernel
theorem dX12_law_53 : decode cX12_law 53 = .ok (.istore_n 2, 1) := by decide +kernel
theorem dX12_law_54 : decode cX12_law 54 = .ok (.iload_n 2, 1) := by decide +kernel
theorem dX12_law_55 : decode cX12_law 55 = .ok (.ifCond .eq 73, 3) := by decide +kernel
theorem dX12_law_58 : decode cX12_law 58 = .ok (.aload_n 0, 1) := by decide +kernel
theorem dX12_law_59 : decode cX12_law 59 = .ok (.invokevirtual 244, 3) := by decide +kernel
theorem dX12_law_62 : decode cX12_law 62 = .ok (.ifCond .eq 66, 3) := by decide +kernel
theorem dX12_law_65 : decode cX12_law 65 = .ok (.aload_n 0, 1) := by decide +kernel
theorem dX12_law_66 : decode cX12_law 66 = .ok (.invokevirtual 339, 3) := by decide +kernel
theorem dX12_law_69 : decode cX12_law 69 = .ok (.aload_n 0, 1) := by decide +kernel
theorem dX12_law_70 : decode cX12_law 70 = .ok (.invokevirtual 244, 3) := by decide +kernel
theorem dX12_law_73 : decode cX12_law 73 = .ok (.ifCond .eq 18, 3) := by decide +kernel
theorem dX12_law_76 : decode cX12_law 76 = .ok (.aload_n 0, 1) := by decide +kernel
theorem dX12_law_77 : decode cX12_law 77 = .ok (.getfield 235, 3) := by decide +kernel
theorem dX12_law_80 : decode cX12_law 80 = .ok (.aload_n 0, 1) := by decide +kernel
theorem dX12_law_81 : decode cX12_law 81 = .ok (.getfield 238, 3) := by decide +kernel
theorem dX12_law_84 : decode cX12_law 84 = .ok (.if_icmp .ge 7, 3) := by decide +kernel
theorem dX12_law_87 : decode cX12_law 87 = .ok (.iconst 1, 1) := by decide +kernel
theorem dX12_law_88 : decode cX12_law 88 = .ok (.goto 4, 3) := by decide +kernel
theorem dX12_law_91 : decode cX12_law 91 = .ok (.iconst 0, 1) := by decide +kernel
theorem dX12_law_92 : decode cX12_law 92 = .ok (.istore_n 2, 1) := by decide +kernel
theorem dX12_law_93 : decode cX12_law 93 = .ok (.iload_n 2, 1) := by decide +kernel
theorem dX12_law_94 : decode cX12_law 94 = .ok (.ifCond .eq (-40), 3) := by decide +kernel
theorem dX12_law_97 : decode cX12_law 97 = .ok (.aload_n 0, 1) := by decide +kernel
theorem dX12_law_98 : decode cX12_law 98 = .ok (.invokevirtual 261, 3) := by decide +kernel
theorem dX12_law_101 : decode cX12_law 101 = .ok (.bipush 59, 2) := by decide +kernel
theorem dX12_law_103 : decode cX12_law 103 = .ok (.if_icmp .eq 12, 3) := by decide +kernel
theorem dX12_law_106 : decode cX12_law 106 = .ok (.aload_n 0, 1) := by decide +kernel
theorem dX12_law_107 : decode cX12_law 107 = .ok (.iconst 1, 1) := by decide +kernel
theorem dX12_law_108 : decode cX12_law 108 = .ok (.aload_n 0, 1) := by decide +kernel
theorem dX12_law_109 : decode cX12_law 109 = .ok (.getfield 235, 3) := by decide +kernel
theorem dX12_law_112 : decode cX12_law 112 = .ok (.invokevirtual 257, 3) := by decide +kernel
theorem dX12_law_115 : decode cX12_law 115 = .ok (.aload_n 0, 1) := by decide +kernel
theorem dX12_law_116 : decode cX12_law 116 = .ok (.dup, 1) := by decide +kernel
theorem dX12_law_117 : decode cX12_law 117 = .ok (.getfield 235, 3) := by decide +kernel
theorem dX12_law_120 : decode cX12_law 120 = .ok (.iconst 1, 1) := by decide +kernel
theorem dX12_law_121 : decode cX12_law 121 = .ok (.iadd, 1) := by decide +kernel
theorem dX12_law_122 : decode cX12_law 122 = .ok (.putfield 235, 3) := by decide +kernel
theorem dX12_law_125 : decode cX12_law 125 = .ok (.goto (-71), 3) := by decide +kernel
theorem dX12_law_128 : decode cX12_law 128 = .ok (.aload_n 0, 1) := by decide +kernel
theorem dX12_law_129 : decode cX12_law 129 = .ok (.getfield 241, 3) := by decide +kernel
theorem dX12_law_132 : decode cX12_law 132 = .ok (.ifCond .ge 8, 3) := by decide +kernel
theorem dX12_law_135 : decode cX12_law 135 = .ok (.aload_n 0, 1) := by decide +kernel
theorem dX12_law_136 : decode cX12_law 136 = .ok (.getfield 241, 3) := by decide +kernel
theorem dX12_law_139 : decode cX12_law 139 = .ok (.ireturn, 1) := by decide +kernel
theorem dX12_law_140 : decode cX12_law 140 = .ok (.iconst 0, 1) := by decide +kernel
theorem dX12_law_141 : decode cX12_law 141 = .ok (.istore_n 3, 1) := by decide +kernel
theorem dX12_law_142 : decode cX12_law 142 = .ok (.iload_n 3, 1) := by decide +kernel
theorem dX12_law_143 : decode cX12_law 143 = .ok (.aload_n 0, 1) := by decide +kernel
theorem dX12_law_144 : decode cX12_law 144 = .ok (.getfield 331, 3) := by decide +kernel
theorem dX12_law_147 : decode cX12_law 147 = .ok (.if_icmp .ge 57, 3) := by decide +kernel
theorem dX12_law_150 : decode cX12_law 150 = .ok (.aload_n 0, 1) := by decide +kernel
theorem dX12_law_151 : decode cX12_law 151 = .ok (.getfield 64, 3) := by decide +kernel
theorem dX12_law_154 : decode cX12_law 154 = .ok (.iload_n 3, 1) := by decide +kernel
theorem dX12_law_155 : decode cX12_law 155 = .ok (.aload_n 0, 1) := by decide +kernel
theorem dX12_law_156 : decode cX12_law 156 = .ok (.getfield 82, 3) := by decide +kernel
theorem dX12_law_159 : decode cX12_law 159 = .ok (.iload_n 3, 1) := by decide +kernel
theorem dX12_law_160 : decode cX12_law 160 = .ok (.iaload, 1) := by decide +kernel
theorem dX12_law_161 : decode cX12_law 161 = .ok (.iastore, 1) := by decide +kernel
theorem dX12_law_162 : decode cX12_law 162 = .ok (.aload_n 0, 1) := by decide +kernel
theorem dX12_law_163 : decode cX12_law 163 = .ok (.getfield 67, 3) := by decide +kernel
theorem dX12_law_166 : decode cX12_law 166 = .ok (.iload_n 3, 1) := by decide +kernel
theorem dX12_law_167 : decode cX12_law 167 = .ok (.aload_n 0, 1) := by decide +kernel
theorem dX12_law_168 : decode cX12_law 168 = .ok (.getfield 85, 3) := by decide +kernel
theorem dX12_law_171 : decode cX12_law 171 = .ok (.iload_n 3, 1) := by decide +kernel
theorem dX12_law_172 : decode cX12_law 172 = .ok (.iaload, 1) := by decide +kernel
theorem dX12_law_173 : decode cX12_law 173 = .ok (.iastore, 1) := by decide +kernel
theorem dX12_law_174 : decode cX12_law 174 = .ok (.aload_n 0, 1) := by decide +kernel
theorem dX12_law_175 : decode cX12_law 175 = .ok (.getfield 70, 3) := by decide +kernel
theorem dX12_law_178 : decode cX12_law 178 = .ok (.iload_n 3, 1) := by decide +kernel
theorem dX12_law_179 : decode cX12_law 179 = .ok (.aload_n 0, 1) := by decide +kernel
theorem dX12_law_180 : decode cX12_law 180 = .ok (.getfield 88, 3) := by decide +kernel
theorem dX12_law_183 : decode cX12_law 183 = .ok (.iload_n 3, 1) := by decide +kernel
theorem dX12_law_184 : decode cX12_law 184 = .ok (.iaload, 1) := by decide +kernel
theorem dX12_law_185 : decode cX12_law 185 = .ok (.iastore, 1) := by decide +kernel
theorem dX12_law_186 : decode cX12_law 186 = .ok (.aload_n 0, 1) := by decide +kernel
theorem dX12_law_187 : decode cX12_law 187 = .ok (.getfield 73, 3) := by decide +kernel
theorem dX12_law_190 : decode cX12_law 190 = .ok (.iload_n 3, 1) := by decide +kernel
theorem dX12_law_191 : decode cX12_law 191 = .ok (.aload_n 0, 1) := by decide +kernel
theorem dX12_law_192 : decode cX12_law 192 = .ok (.getfield 91, 3) := by decide +kernel
theorem dX12_law_195 : decode cX12_law 195 = .ok (.iload_n 3, 1) := by decide +kernel
theorem dX12_law_196 : decode cX12_law 196 = .ok (.iaload, 1) := by decide +kernel
theorem dX12_law_197 : decode cX12_law 197 = .ok (.iastore, 1) := by decide +kernel
theorem dX12_law_198 : decode cX12_law 198 = .ok (.iinc 3 1, 3) := by decide +kernel
theorem dX12_law_201 : decode cX12_law 201 = .ok (.goto (-59), 3) := by decide +kernel
theorem dX12_law_204 : decode cX12_law 204 = .ok (.iconst 0, 1) := by decide +kernel
theorem dX12_law_205 : decode cX12_law 205 = .ok (.istore_n 3, 1) := by decide +kernel
theorem dX12_law_206 : decode cX12_law 206 = .ok (.iload_n 3, 1) := by decide +kernel
theorem dX12_law_207 : decode cX12_law 207 = .ok (.aload_n 0, 1) := by decide +kernel
theorem dX12_law_208 : decode cX12_law 208 = .ok (.getfield 248, 3) := by decide +kernel
theorem dX12_law_211 : decode cX12_law 211 = .ok (.if_icmp .ge 33, 3) := by decide +kernel
theorem dX12_law_214 : decode cX12_law 214 = .ok (.aload_n 0, 1) := by decide +kernel
theorem dX12_law_215 : decode cX12_law 215 = .ok (.getfield 76, 3) := by decide +kernel
theorem dX12_law_218 : decode cX12_law 218 = .ok (.iload_n 3, 1) := by decide +kernel
theorem dX12_law_219 : decode cX12_law 219 = .ok (.aload_n 0, 1) := by decide +kernel
theorem dX12_law_220 : decode cX12_law 220 = .ok (.getfield 94, 3) := by decide +kernel
theorem dX12_law_223 : decode cX12_law 223 = .ok (.iload_n 3, 1) := by decide +kernel
theorem dX12_law_224 : decode cX12_law 224 = .ok (.iaload, 1) := by decide +kernel
theorem dX12_law_225 : decode cX12_law 225 = .ok (.iastore, 1) := by decide +kernel
theorem dX12_law_226 : decode cX12_law 226 = .ok (.aload_n 0, 1) := by decide +kernel
theorem dX12_law_227 : decode cX12_law 227 = .ok (.getfield 79, 3) := by decide +kernel
theorem dX12_law_230 : decode cX12_law 230 = .ok (.iload_n 3, 1) := by decide +kernel
theorem dX12_law_231 : decode cX12_law 231 = .ok (.aload_n 0, 1) := by decide +kernel
theorem dX12_law_232 : decode cX12_law 232 = .ok (.getfield 97, 3) := by decide +kernel
theorem dX12_law_235 : decode cX12_law 235 = .ok (.iload_n 3, 1) := by decide +kernel
theorem dX12_law_236 : decode cX12_law 236 = .ok (.iaload, 1) := by decide +kernel
theorem dX12_law_237 : decode cX12_law 237 = .ok (.iastore, 1) := by decide +kernel
theorem dX12_law_238 : decode cX12_law 238 = .ok (.iinc 3 1, 3) := by decide +kernel
theorem dX12_law_241 : decode cX12_law 241 = .ok (.goto (-35), 3) := by decide +kernel
theorem dX12_law_244 : decode cX12_law 244 = .ok (.aload_n 0, 1) := by decide +kernel
theorem dX12_law_245 : decode cX12_law 245 = .ok (.aload_n 0, 1) := by decide +kernel
theorem dX12_law_246 : decode cX12_law 246 = .ok (.getfield 331, 3) := by decide +kernel
theorem dX12_law_249 : decode cX12_law 249 = .ok (.putfield 342, 3) := by decide +kernel
theorem dX12_law_252 : decode cX12_law 252 = .ok (.aload_n 0, 1) := by decide +kernel
theorem dX12_law_253 : decode cX12_law 253 = .ok (.getfield 342, 3) := by decide +kernel
theorem dX12_law_256 : decode cX12_law 256 = .ok (.ireturn, 1) := by decide +kernel
theorem dX12_size_0 : decode cX12_size 0 = .ok (.iload_n 0, 1) := by decide +kernel
theorem dX12_size_1 : decode cX12_size 1 = .ok (.ifCond .ge 8, 3) := by decide +kernel
theorem dX12_size_4 : decode cX12_size 4 = .ok (.iload_n 0, 1) := by decide +kernel
theorem dX12_size_5 : decode cX12_size 5 = .ok (.ineg, 1) := by decide +kernel
theorem dX12_size_6 : decode cX12_size 6 = .ok (.goto 4, 3) := by decide +kernel
theorem dX12_size_9 : decode cX12_size 9 = .ok (.iload_n 0, 1) := by decide +kernel
theorem dX12_size_10 : decode cX12_size 10 = .ok (.ireturn, 1) := by decide +kernel
theorem dX12_wayOf_0 : decode cX12_wayOf 0 = .ok (.iload_n 0, 1) := by decide +kernel
theorem dX12_wayOf_1 : decode cX12_wayOf 1 = .ok (.bipush 10, 2) := by decide +kernel
theorem dX12_wayOf_3 : decode cX12_wayOf 3 = .ok (.irem, 1) := by decide +kernel
theorem dX12_wayOf_4 : decode cX12_wayOf 4 = .ok (.iload_n 1, 1) := by decide +kernel
theorem dX12_wayOf_5 : decode cX12_wayOf 5 = .ok (.bipush 10, 2) := by decide +kernel
theorem dX12_wayOf_7 : decode cX12_wayOf 7 = .ok (.irem, 1) := by decide +kernel
theorem dX12_wayOf_8 : decode cX12_wayOf 8 = .ok (.isub, 1) := by decide +kernel
theorem dX12_wayOf_9 : decode cX12_wayOf 9 = .ok (.invokestatic 345, 3) := by decide +kernel
theorem dX12_wayOf_12 : decode cX12_wayOf 12 = .ok (.iload_n 0, 1) := by decide +kernel
theorem dX12_wayOf_13 : decode cX12_wayOf 13 = .ok (.bipush 10, 2) := by decide +kernel
theorem dX12_wayOf_15 : decode cX12_wayOf 15 = .ok (.idiv, 1) := by decide +kernel
theorem dX12_wayOf_16 : decode cX12_wayOf 16 = .ok (.iload_n 1, 1) := by decide +kernel
theorem dX12_wayOf_17 : decode cX12_wayOf 17 = .ok (.bipush 10, 2) := by decide +kernel
theorem dX12_wayOf_19 : decode cX12_wayOf 19 = .ok (.idiv, 1) := by decide +kernel
theorem dX12_wayOf_20 : decode cX12_wayOf 20 = .ok (.isub, 1) := by decide +kernel
theorem dX12_wayOf_21 : decode cX12_wayOf 21 = .ok (.invokestatic 345, 3) := by decide +kernel
theorem dX12_wayOf_24 : decode cX12_wayOf 24 = .ok (.iadd, 1) := by decide +kernel
theorem dX12_wayOf_25 : decode cX12_wayOf 25 = .ok (.ireturn, 1) := by decide +kernel
theorem dX12_ofCow_0 : decode cX12_ofCow 0 = .ok (.iload_n 1, 1) := by decide +kernel
theorem dX12_ofCow_1 : decode cX12_ofCow 1 = .ok (.lookupswitch 89 #[(98, 79), (100, 57), (116, 35)], 35) := by decide +kernel
theorem dX12_ofCow_36 : decode cX12_ofCow 36 = .ok (.aload_n 0, 1) := by decide +kernel
theorem dX12_ofCow_37 : decode cX12_ofCow 37 = .ok (.getfield 55, 3) := by decide +kernel
theorem dX12_ofCow_40 : decode cX12_ofCow 40 = .ok (.iconst 5, 1) := by decide +kernel
theorem dX12_ofCow_41 : decode cX12_ofCow 41 = .ok (.aload_n 0, 1) := by decide +kernel
theorem dX12_ofCow_42 : decode cX12_ofCow 42 = .ok (.getfield 349, 3) := by decide +kernel
theorem dX12_ofCow_45 : decode cX12_ofCow 45 = .ok (.imul, 1) := by decide +kernel
theorem dX12_ofCow_46 : decode cX12_ofCow 46 = .ok (.aload_n 0, 1) := by decide +kernel
theorem dX12_ofCow_47 : decode cX12_ofCow 47 = .ok (.getfield 24, 3) := by decide +kernel
theorem dX12_ofCow_50 : decode cX12_ofCow 50 = .ok (.aload_n 0, 1) := by decide +kernel
theorem dX12_ofCow_51 : decode cX12_ofCow 51 = .ok (.getfield 352, 3) := by decide +kernel
theorem dX12_ofCow_54 : decode cX12_ofCow 54 = .ok (.iaload, 1) := by decide +kernel
theorem dX12_ofCow_55 : decode cX12_ofCow 55 = .ok (.iadd, 1) := by decide +kernel
theorem dX12_ofCow_56 : decode cX12_ofCow 56 = .ok (.iaload, 1) := by decide +kernel
theorem dX12_ofCow_57 : decode cX12_ofCow 57 = .ok (.ireturn, 1) := by decide +kernel
theorem dX12_ofCow_58 : decode cX12_ofCow 58 = .ok (.aload_n 0, 1) := by decide +kernel
theorem dX12_ofCow_59 : decode cX12_ofCow 59 = .ok (.getfield 43, 3) := by decide +kernel
theorem dX12_ofCow_62 : decode cX12_ofCow 62 = .ok (.aload_n 0, 1) := by decide +kernel
theorem dX12_ofCow_63 : decode cX12_ofCow 63 = .ok (.getfield 349, 3) := by decide +kernel
theorem dX12_ofCow_66 : decode cX12_ofCow 66 = .ok (.iaload, 1) := by decide +kernel
theorem dX12_ofCow_67 : decode cX12_ofCow 67 = .ok (.aload_n 0, 1) := by decide +kernel
theorem dX12_ofCow_68 : decode cX12_ofCow 68 = .ok (.getfield 20, 3) := by decide +kernel
theorem dX12_ofCow_71 : decode cX12_ofCow 71 = .ok (.aload_n 0, 1) := by decide +kernel
theorem dX12_ofCow_72 : decode cX12_ofCow 72 = .ok (.getfield 352, 3) := by decide +kernel
theorem dX12_ofCow_75 : decode cX12_ofCow 75 = .ok (.iaload, 1) := by decide +kernel
theorem dX12_ofCow_76 : decode cX12_ofCow 76 = .ok (.invokestatic 355, 3) := by decide +kernel
theorem dX12_ofCow_79 : decode cX12_ofCow 79 = .ok (.ireturn, 1) := by decide +kernel
theorem dX12_ofCow_80 : decode cX12_ofCow 80 = .ok (.aload_n 0, 1) := by decide +kernel
theorem dX12_ofCow_81 : decode cX12_ofCow 81 = .ok (.getfield 46, 3) := by decide +kernel
theorem dX12_ofCow_84 : decode cX12_ofCow 84 = .ok (.aload_n 0, 1) := by decide +kernel
theorem dX12_ofCow_85 : decode cX12_ofCow 85 = .ok (.getfield 349, 3) := by decide +kernel
theorem dX12_ofCow_88 : decode cX12_ofCow 88 = .ok (.iaload, 1) := by decide +kernel
theorem dX12_ofCow_89 : decode cX12_ofCow 89 = .ok (.ireturn, 1) := by decide +kernel
theorem dX12_ofCow_90 : decode cX12_ofCow 90 = .ok (.aload_n 0, 1) := by decide +kernel
theorem dX12_ofCow_91 : decode cX12_ofCow 91 = .ok (.getfield 49, 3) := by decide +kernel
theorem dX12_ofCow_94 : decode cX12_ofCow 94 = .ok (.aload_n 0, 1) := by decide +kernel
theorem dX12_ofCow_95 : decode cX12_ofCow 95 = .ok (.getfield 349, 3) := by decide +kernel
theorem dX12_ofCow_98 : decode cX12_ofCow 98 = .ok (.iaload, 1) := by decide +kernel
theorem dX12_ofCow_99 : decode cX12_ofCow 99 = .ok (.ireturn, 1) := by decide +kernel
theorem dX12_valueOf_0 : decode cX12_valueOf 0 = .ok (.iload_n 1, 1) := by decide +kernel
theorem dX12_valueOf_1 : decode cX12_valueOf 1 = .ok (.tableswitch 161 104 120 #[83, 161, 161, 123, 161, 161, 161, 161, 161, 161, 161, 133, 161, 161, 93, 103, 113], 83) := by decide +kernel
theorem dX12_valueOf_84 : decode cX12_valueOf 84 = .ok (.aload_n 0, 1) := by decide +kernel
theorem dX12_valueOf_85 : decode cX12_valueOf 85 = .ok (.getfield 27, 3) := by decide +kernel
theorem dX12_valueOf_88 : decode cX12_valueOf 88 = .ok (.aload_n 0, 1) := by decide +kernel
theorem dX12_valueOf_89 : decode cX12_valueOf 89 = .ok (.getfield 352, 3) := by decide +kernel
theorem dX12_valueOf_92 : decode cX12_valueOf 92 = .ok (.iaload, 1) := by decide +kernel
theorem dX12_valueOf_93 : decode cX12_valueOf 93 = .ok (.ireturn, 1) := by decide +kernel
theorem dX12_valueOf_94 : decode cX12_valueOf 94 = .ok (.aload_n 0, 1) := by decide +kernel
theorem dX12_valueOf_95 : decode cX12_valueOf 95 = .ok (.getfield 30, 3) := by decide +kernel
theorem dX12_valueOf_98 : decode cX12_valueOf 98 = .ok (.aload_n 0, 1) := by decide +kernel
theorem dX12_valueOf_99 : decode cX12_valueOf 99 = .ok (.getfield 352, 3) := by decide +kernel
theorem dX12_valueOf_102 : decode cX12_valueOf 102 = .ok (.iaload, 1) := by decide +kernel
theorem dX12_valueOf_103 : decode cX12_valueOf 103 = .ok (.ireturn, 1) := by decide +kernel
theorem dX12_valueOf_104 : decode cX12_valueOf 104 = .ok (.aload_n 0, 1) := by decide +kernel
theorem dX12_valueOf_105 : decode cX12_valueOf 105 = .ok (.getfield 33, 3) := by decide +kernel
theorem dX12_valueOf_108 : decode cX12_valueOf 108 = .ok (.aload_n 0, 1) := by decide +kernel
theorem dX12_valueOf_109 : decode cX12_valueOf 109 = .ok (.getfield 352, 3) := by decide +kernel
theorem dX12_valueOf_112 : decode cX12_valueOf 112 = .ok (.iaload, 1) := by decide +kernel
theorem dX12_valueOf_113 : decode cX12_valueOf 113 = .ok (.ireturn, 1) := by decide +kernel
theorem dX12_valueOf_114 : decode cX12_valueOf 114 = .ok (.aload_n 0, 1) := by decide +kernel
theorem dX12_valueOf_115 : decode cX12_valueOf 115 = .ok (.getfield 36, 3) := by decide +kernel
theorem dX12_valueOf_118 : decode cX12_valueOf 118 = .ok (.aload_n 0, 1) := by decide +kernel
theorem dX12_valueOf_119 : decode cX12_valueOf 119 = .ok (.getfield 352, 3) := by decide +kernel
theorem dX12_valueOf_122 : decode cX12_valueOf 122 = .ok (.iaload, 1) := by decide +kernel
theorem dX12_valueOf_123 : decode cX12_valueOf 123 = .ok (.ireturn, 1) := by decide +kernel
theorem dX12_valueOf_124 : decode cX12_valueOf 124 = .ok (.aload_n 0, 1) := by decide +kernel
theorem dX12_valueOf_125 : decode cX12_valueOf 125 = .ok (.getfield 24, 3) := by decide +kernel
theorem dX12_valueOf_128 : decode cX12_valueOf 128 = .ok (.aload_n 0, 1) := by decide +kernel
theorem dX12_valueOf_129 : decode cX12_valueOf 129 = .ok (.getfield 352, 3) := by decide +kernel
theorem dX12_valueOf_132 : decode cX12_valueOf 132 = .ok (.iaload, 1) := by decide +kernel
theorem dX12_valueOf_133 : decode cX12_valueOf 133 = .ok (.ireturn, 1) := by decide +kernel
theorem dX12_valueOf_134 : decode cX12_valueOf 134 = .ok (.aload_n 0, 1) := by decide +kernel
theorem dX12_valueOf_135 : decode cX12_valueOf 135 = .ok (.getfield 17, 3) := by decide +kernel
theorem dX12_valueOf_138 : decode cX12_valueOf 138 = .ok (.aload_n 0, 1) := by decide +kernel
theorem dX12_valueOf_139 : decode cX12_valueOf 139 = .ok (.getfield 352, 3) := by decide +kernel
theorem dX12_valueOf_142 : decode cX12_valueOf 142 = .ok (.if_icmp .ne 18, 3) := by decide +kernel
theorem dX12_valueOf_145 : decode cX12_valueOf 145 = .ok (.aload_n 0, 1) := by decide +kernel
theorem dX12_valueOf_146 : decode cX12_valueOf 146 = .ok (.getfield 359, 3) := by decide +kernel
theorem dX12_valueOf_149 : decode cX12_valueOf 149 = .ok (.aload_n 0, 1) := by decide +kernel
theorem dX12_valueOf_150 : decode cX12_valueOf 150 = .ok (.getfield 225, 3) := by decide +kernel
theorem dX12_valueOf_153 : decode cX12_valueOf 153 = .ok (.if_icmp .lt 7, 3) := by decide +kernel
theorem dX12_valueOf_156 : decode cX12_valueOf 156 = .ok (.iconst 1, 1) := by decide +kernel
theorem dX12_valueOf_157 : decode cX12_valueOf 157 = .ok (.goto 4, 3) := by decide +kernel
theorem dX12_valueOf_160 : decode cX12_valueOf 160 = .ok (.iconst 0, 1) := by decide +kernel
theorem dX12_valueOf_161 : decode cX12_valueOf 161 = .ok (.ireturn, 1) := by decide +kernel
theorem dX12_valueOf_162 : decode cX12_valueOf 162 = .ok (.aload_n 0, 1) := by decide +kernel
theorem dX12_valueOf_163 : decode cX12_valueOf 163 = .ok (.getfield 349, 3) := by decide +kernel
theorem dX12_valueOf_166 : decode cX12_valueOf 166 = .ok (.iconst (-1), 1) := by decide +kernel
theorem dX12_valueOf_167 : decode cX12_valueOf 167 = .ok (.if_icmp .ne 7, 3) := by decide +kernel
theorem dX12_valueOf_170 : decode cX12_valueOf 170 = .ok (.iconst 0, 1) := by decide +kernel
theorem dX12_valueOf_171 : decode cX12_valueOf 171 = .ok (.goto 8, 3) := by decide +kernel
theorem dX12_valueOf_174 : decode cX12_valueOf 174 = .ok (.aload_n 0, 1) := by decide +kernel
theorem dX12_valueOf_175 : decode cX12_valueOf 175 = .ok (.iload_n 1, 1) := by decide +kernel
theorem dX12_valueOf_176 : decode cX12_valueOf 176 = .ok (.invokevirtual 362, 3) := by decide +kernel
theorem dX12_valueOf_179 : decode cX12_valueOf 179 = .ok (.ireturn, 1) := by decide +kernel
theorem dX12_worked_0 : decode cX12_worked 0 = .ok (.iload_n 0, 1) := by decide +kernel
theorem dX12_worked_1 : decode cX12_worked 1 = .ok (.lookupswitch 125 #[(37, 91), (42, 75), (43, 67), (45, 71), (47, 79), (60, 103), (62, 114)], 67) := by decide +kernel
theorem dX12_worked_68 : decode cX12_worked 68 = .ok (.iload_n 1, 1) := by decide +kernel
theorem dX12_worked_69 : decode cX12_worked 69 = .ok (.iload_n 2, 1) := by decide +kernel
theorem dX12_worked_70 : decode cX12_worked 70 = .ok (.iadd, 1) := by decide +kernel
theorem dX12_worked_71 : decode cX12_worked 71 = .ok (.ireturn, 1) := by decide +kernel
theorem dX12_worked_72 : decode cX12_worked 72 = .ok (.iload_n 1, 1) := by decide +kernel
theorem dX12_worked_73 : decode cX12_worked 73 = .ok (.iload_n 2, 1) := by decide +kernel
theorem dX12_worked_74 : decode cX12_worked 74 = .ok (.isub, 1) := by decide +kernel
theorem dX12_worked_75 : decode cX12_worked 75 = .ok (.ireturn, 1) := by decide +kernel
theorem dX12_worked_76 : decode cX12_worked 76 = .ok (.iload_n 1, 1) := by decide +kernel
theorem dX12_worked_77 : decode cX12_worked 77 = .ok (.iload_n 2, 1) := by decide +kernel
theorem dX12_worked_78 : decode cX12_worked 78 = .ok (.imul, 1) := by decide +kernel
theorem dX12_worked_79 : decode cX12_worked 79 = .ok (.ireturn, 1) := by decide +kernel
theorem dX12_worked_80 : decode cX12_worked 80 = .ok (.iload_n 2, 1) := by decide +kernel
theorem dX12_worked_81 : decode cX12_worked 81 = .ok (.ifCond .ne 7, 3) := by decide +kernel
theorem dX12_worked_84 : decode cX12_worked 84 = .ok (.iconst 0, 1) := by decide +kernel
theorem dX12_worked_85 : decode cX12_worked 85 = .ok (.goto 6, 3) := by decide +kernel
theorem dX12_worked_88 : decode cX12_worked 88 = .ok (.iload_n 1, 1) := by decide +kernel
theorem dX12_worked_89 : decode cX12_worked 89 = .ok (.iload_n 2, 1) := by decide +kernel
theorem dX12_worked_90 : decode cX12_worked 90 = .ok (.idiv, 1) := by decide +kernel
theorem dX12_worked_91 : decode cX12_worked 91 = .ok (.ireturn, 1) := by decide +kernel
theorem dX12_worked_92 : decode cX12_worked 92 = .ok (.iload_n 2, 1) := by decide +kernel
theorem dX12_worked_93 : decode cX12_worked 93 = .ok (.ifCond .ne 7, 3) := by decide +kernel
theorem dX12_worked_96 : decode cX12_worked 96 = .ok (.iconst 0, 1) := by decide +kernel
theorem dX12_worked_97 : decode cX12_worked 97 = .ok (.goto 6, 3) := by decide +kernel
theorem dX12_worked_100 : decode cX12_worked 100 = .ok (.iload_n 1, 1) := by decide +kernel
theorem dX12_worked_101 : decode cX12_worked 101 = .ok (.iload_n 2, 1) := by decide +kernel
theorem dX12_worked_102 : decode cX12_worked 102 = .ok (.irem, 1) := by decide +kernel
theorem dX12_worked_103 : decode cX12_worked 103 = .ok (.ireturn, 1) := by decide +kernel
theorem dX12_worked_104 : decode cX12_worked 104 = .ok (.iload_n 1, 1) := by decide +kernel
theorem dX12_worked_105 : decode cX12_worked 105 = .ok (.iload_n 2, 1) := by decide +kernel
theorem dX12_worked_106 : decode cX12_worked 106 = .ok (.if_icmp .ge 7, 3) := by decide +kernel
theorem dX12_worked_109 : decode cX12_worked 109 = .ok (.iconst 1, 1) := by decide +kernel
theorem dX12_worked_110 : decode cX12_worked 110 = .ok (.goto 4, 3) := by decide +kernel
theorem dX12_worked_113 : decode cX12_worked 113 = .ok (.iconst 0, 1) := by decide +kernel
theorem dX12_worked_114 : decode cX12_worked 114 = .ok (.ireturn, 1) := by decide +kernel
theorem dX12_worked_115 : decode cX12_worked 115 = .ok (.iload_n 1, 1) := by decide +kernel
theorem dX12_worked_116 : decode cX12_worked 116 = .ok (.iload_n 2, 1) := by decide +kernel
theorem dX12_worked_117 : decode cX12_worked 117 = .ok (.if_icmp .le 7, 3) := by decide +kernel
theorem dX12_worked_120 : decode cX12_worked 120 = .ok (.iconst 1, 1) := by decide +kernel
theorem dX12_worked_121 : decode cX12_worked 121 = .ok (.goto 4, 3) := by decide +kernel
theorem dX12_worked_124 : decode cX12_worked 124 = .ok (.iconst 0, 1) := by decide +kernel
theorem dX12_worked_125 : decode cX12_worked 125 = .ok (.ireturn, 1) := by decide +kernel
theorem dX12_worked_126 : decode cX12_worked 126 = .ok (.iload_n 1, 1) := by decide +kernel
theorem dX12_worked_127 : decode cX12_worked 127 = .ok (.iload_n 2, 1) := by decide +kernel
theorem dX12_worked_128 : decode cX12_worked 128 = .ok (.if_icmp .ne 7, 3) := by decide +kernel
theorem dX12_worked_131 : decode cX12_worked 131 = .ok (.iconst 1, 1) := by decide +kernel
theorem dX12_worked_132 : decode cX12_worked 132 = .ok (.goto 4, 3) := by decide +kernel
theorem dX12_worked_135 : decode cX12_worked 135 = .ok (.iconst 0, 1) := by decide +kernel
theorem dX12_worked_136 : decode cX12_worked 136 = .ok (.ireturn, 1) := by decide +kernel
theorem dX12_does_0 : decode cX12_does 0 = .ok (.iload_n 2, 1) := by decide +kernel
theorem dX12_does_1 : decode cX12_does 1 = .ok (.iconst 1, 1) := by decide +kernel
theorem dX12_does_2 : decode cX12_does 2 = .ok (.iadd, 1) := by decide +kernel
theorem dX12_does_3 : decode cX12_does 3 = .ok (.istore_n 3, 1) := by decide +kernel
theorem dX12_does_4 : decode cX12_does 4 = .ok (.iload_n 1, 1) := by decide +kernel
theorem dX12_does_5 : decode cX12_does 5 = .ok (.bipush 38, 2) := by decide +kernel
theorem dX12_does_7 : decode cX12_does 7 = .ok (.if_icmp .eq 9, 3) := by decide +kernel
theorem dX12_does_10 : decode cX12_does 10 = .ok (.iload_n 1, 1) := by decide +kernel
theorem dX12_does_11 : decode cX12_does 11 = .ok (.bipush 124, 2) := by decide +kernel
theorem dX12_does_13 : decode cX12_does 13 = .ok (.if_icmp .ne 58, 3) := by decide +kernel
theorem dX12_does_16 : decode cX12_does 16 = .ok (.aload_n 0, 1) := by decide +kernel
theorem dX12_does_17 : decode cX12_does 17 = .ok (.getfield 106, 3) := by decide +kernel
theorem dX12_does_20 : decode cX12_does 20 = .ok (.iload_n 2, 1) := by decide +kernel
theorem dX12_does_21 : decode cX12_does 21 = .ok (.baload, 1) := by decide +kernel
theorem dX12_does_22 : decode cX12_does 22 = .ok (.ifCond .ne 23, 3) := by decide +kernel
theorem dX12_does_25 : decode cX12_does 25 = .ok (.aload_n 0, 1) := by decide +kernel
theorem dX12_does_26 : decode cX12_does 26 = .ok (.getfield 103, 3) := by decide +kernel
theorem dX12_does_29 : decode cX12_does 29 = .ok (.iload_n 2, 1) := by decide +kernel
theorem dX12_does_30 : decode cX12_does 30 = .ok (.iaload, 1) := by decide +kernel
theorem dX12_does_31 : decode cX12_does 31 = .ok (.iload_n 1, 1) := by decide +kernel
theorem dX12_does_32 : decode cX12_does 32 = .ok (.bipush 38, 2) := by decide +kernel
theorem dX12_does_34 : decode cX12_does 34 = .ok (.if_icmp .ne 7, 3) := by decide +kernel
theorem dX12_does_37 : decode cX12_does 37 = .ok (.iconst 1, 1) := by decide +kernel
theorem dX12_does_38 : decode cX12_does 38 = .ok (.goto 4, 3) := by decide +kernel
theorem dX12_does_41 : decode cX12_does 41 = .ok (.iconst 0, 1) := by decide +kernel
theorem dX12_does_42 : decode cX12_does 42 = .ok (.if_icmp .eq 4, 3) := by decide +kernel
theorem dX12_does_45 : decode cX12_does 45 = .ok (.return_, 1) := by decide +kernel
theorem dX12_does_46 : decode cX12_does 46 = .ok (.aload_n 0, 1) := by decide +kernel
theorem dX12_does_47 : decode cX12_does 47 = .ok (.getfield 103, 3) := by decide +kernel
theorem dX12_does_50 : decode cX12_does 50 = .ok (.iload_n 2, 1) := by decide +kernel
theorem dX12_does_51 : decode cX12_does 51 = .ok (.aload_n 0, 1) := by decide +kernel
theorem dX12_does_52 : decode cX12_does 52 = .ok (.getfield 103, 3) := by decide +kernel
theorem dX12_does_55 : decode cX12_does 55 = .ok (.iload_n 3, 1) := by decide +kernel
theorem dX12_does_56 : decode cX12_does 56 = .ok (.iaload, 1) := by decide +kernel
theorem dX12_does_57 : decode cX12_does 57 = .ok (.iastore, 1) := by decide +kernel
theorem dX12_does_58 : decode cX12_does 58 = .ok (.aload_n 0, 1) := by decide +kernel
theorem dX12_does_59 : decode cX12_does 59 = .ok (.getfield 106, 3) := by decide +kernel
theorem dX12_does_62 : decode cX12_does 62 = .ok (.iload_n 2, 1) := by decide +kernel
theorem dX12_does_63 : decode cX12_does 63 = .ok (.aload_n 0, 1) := by decide +kernel
theorem dX12_does_64 : decode cX12_does 64 = .ok (.getfield 106, 3) := by decide +kernel
theorem dX12_does_67 : decode cX12_does 67 = .ok (.iload_n 3, 1) := by decide +kernel
theorem dX12_does_68 : decode cX12_does 68 = .ok (.baload, 1) := by decide +kernel
theorem dX12_does_69 : decode cX12_does 69 = .ok (.bastore, 1) := by decide +kernel
theorem dX12_does_70 : decode cX12_does 70 = .ok (.return_, 1) := by decide +kernel
theorem dX12_does_71 : decode cX12_does 71 = .ok (.aload_n 0, 1) := by decide +kernel
theorem dX12_does_72 : decode cX12_does 72 = .ok (.getfield 106, 3) := by decide +kernel
theorem dX12_does_75 : decode cX12_does 75 = .ok (.iload_n 2, 1) := by decide +kernel
theorem dX12_does_76 : decode cX12_does 76 = .ok (.aload_n 0, 1) := by decide +kernel
theorem dX12_does_77 : decode cX12_does 77 = .ok (.getfield 106, 3) := by decide +kernel
theorem dX12_does_80 : decode cX12_does 80 = .ok (.iload_n 2, 1) := by decide +kernel
theorem dX12_does_81 : decode cX12_does 81 = .ok (.baload, 1) := by decide +kernel
theorem dX12_does_82 : decode cX12_does 82 = .ok (.ifCond .ne 33, 3) := by decide +kernel
theorem dX12_does_85 : decode cX12_does 85 = .ok (.aload_n 0, 1) := by decide +kernel
theorem dX12_does_86 : decode cX12_does 86 = .ok (.getfield 106, 3) := by decide +kernel
theorem dX12_does_89 : decode cX12_does 89 = .ok (.iload_n 3, 1) := by decide +kernel
theorem dX12_does_90 : decode cX12_does 90 = .ok (.baload, 1) := by decide +kernel
theorem dX12_does_91 : decode cX12_does 91 = .ok (.ifCond .ne 24, 3) := by decide +kernel
theorem dX12_does_94 : decode cX12_does 94 = .ok (.iload_n 1, 1) := by decide +kernel
theorem dX12_does_95 : decode cX12_does 95 = .ok (.bipush 47, 2) := by decide +kernel
theorem dX12_does_97 : decode cX12_does 97 = .ok (.if_icmp .eq 9, 3) := by decide +kernel
theorem dX12_does_100 : decode cX12_does 100 = .ok (.iload_n 1, 1) := by decide +kernel
theorem dX12_does_101 : decode cX12_does 101 = .ok (.bipush 37, 2) := by decide +kernel
theorem dX12_does_103 : decode cX12_does 103 = .ok (.if_icmp .ne 16, 3) := by decide +kernel
theorem dX12_does_106 : decode cX12_does 106 = .ok (.aload_n 0, 1) := by decide +kernel
theorem dX12_does_107 : decode cX12_does 107 = .ok (.getfield 103, 3) := by decide +kernel
theorem dX12_does_110 : decode cX12_does 110 = .ok (.iload_n 3, 1) := by decide +kernel
theorem dX12_does_111 : decode cX12_does 111 = .ok (.iaload, 1) := by decide +kernel
theorem dX12_does_112 : decode cX12_does 112 = .ok (.ifCond .ne 7, 3) := by decide +kernel
theorem dX12_does_115 : decode cX12_does 115 = .ok (.iconst 1, 1) := by decide +kernel
theorem dX12_does_116 : decode cX12_does 116 = .ok (.goto 4, 3) := by decide +kernel
theorem dX12_does_119 : decode cX12_does 119 = .ok (.iconst 0, 1) := by decide +kernel
theorem dX12_does_120 : decode cX12_does 120 = .ok (.bastore, 1) := by decide +kernel
theorem dX12_does_121 : decode cX12_does 121 = .ok (.aload_n 0, 1) := by decide +kernel
theorem dX12_does_122 : decode cX12_does 122 = .ok (.getfield 103, 3) := by decide +kernel
theorem dX12_does_125 : decode cX12_does 125 = .ok (.iload_n 2, 1) := by decide +kernel
theorem dX12_does_126 : decode cX12_does 126 = .ok (.iload_n 1, 1) := by decide +kernel
theorem dX12_does_127 : decode cX12_does 127 = .ok (.aload_n 0, 1) := by decide +kernel
theorem dX12_does_128 : decode cX12_does 128 = .ok (.getfield 103, 3) := by decide +kernel
theorem dX12_does_131 : decode cX12_does 131 = .ok (.iload_n 2, 1) := by decide +kernel
theorem dX12_does_132 : decode cX12_does 132 = .ok (.iaload, 1) := by decide +kernel
theorem dX12_does_133 : decode cX12_does 133 = .ok (.aload_n 0, 1) := by decide +kernel
theorem dX12_does_134 : decode cX12_does 134 = .ok (.getfield 103, 3) := by decide +kernel
theorem dX12_does_137 : decode cX12_does 137 = .ok (.iload_n 3, 1) := by decide +kernel
theorem dX12_does_138 : decode cX12_does 138 = .ok (.iaload, 1) := by decide +kernel
theorem dX12_does_139 : decode cX12_does 139 = .ok (.invokestatic 365, 3) := by decide +kernel
theorem dX12_does_142 : decode cX12_does 142 = .ok (.iastore, 1) := by decide +kernel
theorem dX12_does_143 : decode cX12_does 143 = .ok (.return_, 1) := by decide +kernel
theorem dX12_works_0 : decode cX12_works 0 = .ok (.iconst 0, 1) := by decide +kernel
theorem dX12_works_1 : decode cX12_works 1 = .ok (.istore_n 3, 1) := by decide +kernel
theorem dX12_works_2 : decode cX12_works 2 = .ok (.iload_n 1, 1) := by decide +kernel
theorem dX12_works_3 : decode cX12_works 3 = .ok (.istore 4, 2) := by decide +kernel
theorem dX12_works_5 : decode cX12_works 5 = .ok (.iload 4, 2) := by decide +kernel
theorem dX12_works_7 : decode cX12_works 7 = .ok (.iload_n 2, 1) := by decide +kernel
theorem dX12_works_8 : decode cX12_works 8 = .ok (.if_icmp .ge 119, 3) := by decide +kernel
theorem dX12_works_11 : decode cX12_works 11 = .ok (.aload_n 0, 1) := by decide +kernel
theorem dX12_works_12 : decode cX12_works 12 = .ok (.getfield 76, 3) := by decide +kernel
theorem dX12_works_15 : decode cX12_works 15 = .ok (.iload 4, 2) := by decide +kernel
theorem dX12_works_17 : decode cX12_works 17 = .ok (.iaload, 1) := by decide +kernel
theorem dX12_works_18 : decode cX12_works 18 = .ok (.iconst 2, 1) := by decide +kernel
theorem dX12_works_19 : decode cX12_works 19 = .ok (.if_icmp .le 23, 3) := by decide +kernel
theorem dX12_works_22 : decode cX12_works 22 = .ok (.iinc 3 (-1), 3) := by decide +kernel
theorem dX12_works_25 : decode cX12_works 25 = .ok (.aload_n 0, 1) := by decide +kernel
theorem dX12_works_26 : decode cX12_works 26 = .ok (.aload_n 0, 1) := by decide +kernel
theorem dX12_works_27 : decode cX12_works 27 = .ok (.getfield 76, 3) := by decide +kernel
theorem dX12_works_30 : decode cX12_works 30 = .ok (.iload 4, 2) := by decide +kernel
theorem dX12_works_32 : decode cX12_works 32 = .ok (.iaload, 1) := by decide +kernel
theorem dX12_works_33 : decode cX12_works 33 = .ok (.iload_n 3, 1) := by decide +kernel
theorem dX12_works_34 : decode cX12_works 34 = .ok (.iconst 1, 1) := by decide +kernel
theorem dX12_works_35 : decode cX12_works 35 = .ok (.isub, 1) := by decide +kernel
theorem dX12_works_36 : decode cX12_works 36 = .ok (.invokevirtual 369, 3) := by decide +kernel
theorem dX12_works_39 : decode cX12_works 39 = .ok (.goto 82, 3) := by decide +kernel
theorem dX12_works_42 : decode cX12_works 42 = .ok (.aload_n 0, 1) := by decide +kernel
theorem dX12_works_43 : decode cX12_works 43 = .ok (.getfield 76, 3) := by decide +kernel
theorem dX12_works_46 : decode cX12_works 46 = .ok (.iload 4, 2) := by decide +kernel
theorem dX12_works_48 : decode cX12_works 48 = .ok (.iaload, 1) := by decide +kernel
theorem dX12_works_49 : decode cX12_works 49 = .ok (.iconst 2, 1) := by decide +kernel
theorem dX12_works_50 : decode cX12_works 50 = .ok (.if_icmp .ne 24, 3) := by decide +kernel
theorem dX12_works_53 : decode cX12_works 53 = .ok (.aload_n 0, 1) := by decide +kernel
theorem dX12_works_54 : decode cX12_works 54 = .ok (.getfield 103, 3) := by decide +kernel
theorem dX12_works_57 : decode cX12_works 57 = .ok (.iload_n 3, 1) := by decide +kernel
theorem dX12_works_58 : decode cX12_works 58 = .ok (.iconst 1, 1) := by decide +kernel
theorem dX12_works_59 : decode cX12_works 59 = .ok (.isub, 1) := by decide +kernel
theorem dX12_works_60 : decode cX12_works 60 = .ok (.iconst 1, 1) := by decide +kernel
theorem dX12_works_61 : decode cX12_works 61 = .ok (.aload_n 0, 1) := by decide +kernel
theorem dX12_works_62 : decode cX12_works 62 = .ok (.getfield 103, 3) := by decide +kernel
theorem dX12_works_65 : decode cX12_works 65 = .ok (.iload_n 3, 1) := by decide +kernel
theorem dX12_works_66 : decode cX12_works 66 = .ok (.iconst 1, 1) := by decide +kernel
theorem dX12_works_67 : decode cX12_works 67 = .ok (.isub, 1) := by decide +kernel
theorem dX12_works_68 : decode cX12_works 68 = .ok (.iaload, 1) := by decide +kernel
theorem dX12_works_69 : decode cX12_works 69 = .ok (.isub, 1) := by decide +kernel
theorem dX12_works_70 : decode cX12_works 70 = .ok (.iastore, 1) := by decide +kernel
theorem dX12_works_71 : decode cX12_works 71 = .ok (.goto 50, 3) := by decide +kernel
theorem dX12_works_74 : decode cX12_works 74 = .ok (.aload_n 0, 1) := by decide +kernel
theorem dX12_works_75 : decode cX12_works 75 = .ok (.getfield 106, 3) := by decide +kernel
theorem dX12_works_78 : decode cX12_works 78 = .ok (.iload_n 3, 1) := by decide +kernel
theorem dX12_works_79 : decode cX12_works 79 = .ok (.iconst 0, 1) := by decide +kernel
theorem dX12_works_80 : decode cX12_works 80 = .ok (.bastore, 1) := by decide +kernel
theorem dX12_works_81 : decode cX12_works 81 = .ok (.aload_n 0, 1) := by decide +kernel
theorem dX12_works_82 : decode cX12_works 82 = .ok (.getfield 103, 3) := by decide +kernel
theorem dX12_works_85 : decode cX12_works 85 = .ok (.iload_n 3, 1) := by decide +kernel
theorem dX12_works_86 : decode cX12_works 86 = .ok (.aload_n 0, 1) := by decide +kernel
theorem dX12_works_87 : decode cX12_works 87 = .ok (.getfield 76, 3) := by decide +kernel
theorem dX12_works_90 : decode cX12_works 90 = .ok (.iload 4, 2) := by decide +kernel
theorem dX12_works_92 : decode cX12_works 92 = .ok (.iaload, 1) := by decide +kernel
theorem dX12_works_93 : decode cX12_works 93 = .ok (.ifCond .ne 13, 3) := by decide +kernel
theorem dX12_works_96 : decode cX12_works 96 = .ok (.aload_n 0, 1) := by decide +kernel
theorem dX12_works_97 : decode cX12_works 97 = .ok (.getfield 79, 3) := by decide +kernel
theorem dX12_works_100 : decode cX12_works 100 = .ok (.iload 4, 2) := by decide +kernel
theorem dX12_works_102 : decode cX12_works 102 = .ok (.iaload, 1) := by decide +kernel
theorem dX12_works_103 : decode cX12_works 103 = .ok (.goto 14, 3) := by decide +kernel
theorem dX12_works_106 : decode cX12_works 106 = .ok (.aload_n 0, 1) := by decide +kernel
theorem dX12_works_107 : decode cX12_works 107 = .ok (.aload_n 0, 1) := by decide +kernel
theorem dX12_works_108 : decode cX12_works 108 = .ok (.getfield 79, 3) := by decide +kernel
theorem dX12_works_111 : decode cX12_works 111 = .ok (.iload 4, 2) := by decide +kernel
theorem dX12_works_113 : decode cX12_works 113 = .ok (.iaload, 1) := by decide +kernel
theorem dX12_works_114 : decode cX12_works 114 = .ok (.invokevirtual 372, 3) := by decide +kernel
theorem dX12_works_117 : decode cX12_works 117 = .ok (.iastore, 1) := by decide +kernel
theorem dX12_works_118 : decode cX12_works 118 = .ok (.iinc 3 1, 3) := by decide +kernel
theorem dX12_works_121 : decode cX12_works 121 = .ok (.iinc 4 1, 3) := by decide +kernel
theorem dX12_works_124 : decode cX12_works 124 = .ok (.goto (-119), 3) := by decide +kernel
theorem dX12_works_127 : decode cX12_works 127 = .ok (.return_, 1) := by decide +kernel
theorem dX12_holds_0 : decode cX12_holds 0 = .ok (.aload_n 0, 1) := by decide +kernel
theorem dX12_holds_1 : decode cX12_holds 1 = .ok (.aload_n 0, 1) := by decide +kernel
theorem dX12_holds_2 : decode cX12_holds 2 = .ok (.getfield 70, 3) := by decide +kernel
theorem dX12_holds_5 : decode cX12_holds 5 = .ok (.iload_n 1, 1) := by decide +kernel
theorem dX12_holds_6 : decode cX12_holds 6 = .ok (.iaload, 1) := by decide +kernel
theorem dX12_holds_7 : decode cX12_holds 7 = .ok (.aload_n 0, 1) := by decide +kernel
theorem dX12_holds_8 : decode cX12_holds 8 = .ok (.getfield 73, 3) := by decide +kernel
theorem dX12_holds_11 : decode cX12_holds 11 = .ok (.iload_n 1, 1) := by decide +kernel
theorem dX12_holds_12 : decode cX12_holds 12 = .ok (.iaload, 1) := by decide +kernel
theorem dX12_holds_13 : decode cX12_holds 13 = .ok (.invokevirtual 375, 3) := by decide +kernel
theorem dX12_holds_16 : decode cX12_holds 16 = .ok (.aload_n 0, 1) := by decide +kernel
theorem dX12_holds_17 : decode cX12_holds 17 = .ok (.getfield 106, 3) := by decide +kernel
theorem dX12_holds_20 : decode cX12_holds 20 = .ok (.iconst 0, 1) := by decide +kernel
theorem dX12_holds_21 : decode cX12_holds 21 = .ok (.baload, 1) := by decide +kernel
theorem dX12_holds_22 : decode cX12_holds 22 = .ok (.ifCond .ne 17, 3) := by decide +kernel
theorem dX12_holds_25 : decode cX12_holds 25 = .ok (.aload_n 0, 1) := by decide +kernel
theorem dX12_holds_26 : decode cX12_holds 26 = .ok (.getfield 103, 3) := by decide +kernel
theorem dX12_holds_29 : decode cX12_holds 29 = .ok (.iconst 0, 1) := by decide +kernel
theorem dX12_holds_30 : decode cX12_holds 30 = .ok (.iaload, 1) := by decide +kernel
theorem dX12_holds_31 : decode cX12_holds 31 = .ok (.iconst 1, 1) := by decide +kernel
theorem dX12_holds_32 : decode cX12_holds 32 = .ok (.if_icmp .ne 7, 3) := by decide +kernel
theorem dX12_holds_35 : decode cX12_holds 35 = .ok (.iconst 1, 1) := by decide +kernel
theorem dX12_holds_36 : decode cX12_holds 36 = .ok (.goto 4, 3) := by decide +kernel
theorem dX12_holds_39 : decode cX12_holds 39 = .ok (.iconst 0, 1) := by decide +kernel
theorem dX12_holds_40 : decode cX12_holds 40 = .ok (.ireturn, 1) := by decide +kernel
theorem dX12_tells_0 : decode cX12_tells 0 = .ok (.iconst 0, 1) := by decide +kernel
theorem dX12_tells_1 : decode cX12_tells 1 = .ok (.istore_n 3, 1) := by decide +kernel
theorem dX12_tells_2 : decode cX12_tells 2 = .ok (.iload_n 3, 1) := by decide +kernel
theorem dX12_tells_3 : decode cX12_tells 3 = .ok (.aload_n 0, 1) := by decide +kernel
theorem dX12_tells_4 : decode cX12_tells 4 = .ok (.getfield 342, 3) := by decide +kernel
theorem dX12_tells_7 : decode cX12_tells 7 = .ok (.if_icmp .ge 89, 3) := by decide +kernel
theorem dX12_tells_10 : decode cX12_tells 10 = .ok (.aload_n 0, 1) := by decide +kernel
theorem dX12_tells_11 : decode cX12_tells 11 = .ok (.getfield 64, 3) := by decide +kernel
theorem dX12_tells_14 : decode cX12_tells 14 = .ok (.iload_n 3, 1) := by decide +kernel
theorem dX12_tells_15 : decode cX12_tells 15 = .ok (.iaload, 1) := by decide +kernel
theorem dX12_tells_16 : decode cX12_tells 16 = .ok (.iload_n 1, 1) := by decide +kernel
theorem dX12_tells_17 : decode cX12_tells 17 = .ok (.if_icmp .ne 73, 3) := by decide +kernel
theorem dX12_tells_20 : decode cX12_tells 20 = .ok (.aload_n 0, 1) := by decide +kernel
theorem dX12_tells_21 : decode cX12_tells 21 = .ok (.iload_n 3, 1) := by decide +kernel
theorem dX12_tells_22 : decode cX12_tells 22 = .ok (.invokevirtual 378, 3) := by decide +kernel
theorem dX12_tells_25 : decode cX12_tells 25 = .ok (.ifCond .ne 6, 3) := by decide +kernel
theorem dX12_tells_28 : decode cX12_tells 28 = .ok (.goto 62, 3) := by decide +kernel
theorem dX12_tells_31 : decode cX12_tells 31 = .ok (.aload_n 0, 1) := by decide +kernel
theorem dX12_tells_32 : decode cX12_tells 32 = .ok (.aload_n 0, 1) := by decide +kernel
theorem dX12_tells_33 : decode cX12_tells 33 = .ok (.getfield 67, 3) := by decide +kernel
theorem dX12_tells_36 : decode cX12_tells 36 = .ok (.iload_n 3, 1) := by decide +kernel
theorem dX12_tells_37 : decode cX12_tells 37 = .ok (.iaload, 1) := by decide +kernel
theorem dX12_tells_38 : decode cX12_tells 38 = .ok (.aload_n 0, 1) := by decide +kernel
theorem dX12_tells_39 : decode cX12_tells 39 = .ok (.getfield 70, 3) := by decide +kernel
theorem dX12_tells_42 : decode cX12_tells 42 = .ok (.iload_n 3, 1) := by decide +kernel
theorem dX12_tells_43 : decode cX12_tells 43 = .ok (.iaload, 1) := by decide +kernel
theorem dX12_tells_44 : decode cX12_tells 44 = .ok (.invokevirtual 375, 3) := by decide +kernel
theorem dX12_tells_47 : decode cX12_tells 47 = .ok (.aload_n 0, 1) := by decide +kernel
theorem dX12_tells_48 : decode cX12_tells 48 = .ok (.getfield 106, 3) := by decide +kernel
theorem dX12_tells_51 : decode cX12_tells 51 = .ok (.iconst 0, 1) := by decide +kernel
theorem dX12_tells_52 : decode cX12_tells 52 = .ok (.baload, 1) := by decide +kernel
theorem dX12_tells_53 : decode cX12_tells 53 = .ok (.ifCond .eq 7, 3) := by decide +kernel
theorem dX12_tells_56 : decode cX12_tells 56 = .ok (.iconst 0, 1) := by decide +kernel
theorem dX12_tells_57 : decode cX12_tells 57 = .ok (.goto 9, 3) := by decide +kernel
theorem dX12_tells_60 : decode cX12_tells 60 = .ok (.aload_n 0, 1) := by decide +kernel
theorem dX12_tells_61 : decode cX12_tells 61 = .ok (.getfield 103, 3) := by decide +kernel
theorem dX12_tells_64 : decode cX12_tells 64 = .ok (.iconst 0, 1) := by decide +kernel
theorem dX12_tells_65 : decode cX12_tells 65 = .ok (.iaload, 1) := by decide +kernel
theorem dX12_tells_66 : decode cX12_tells 66 = .ok (.istore 4, 2) := by decide +kernel
theorem dX12_tells_68 : decode cX12_tells 68 = .ok (.iload 4, 2) := by decide +kernel
theorem dX12_tells_70 : decode cX12_tells 70 = .ok (.ifCond .ge 7, 3) := by decide +kernel
theorem dX12_tells_73 : decode cX12_tells 73 = .ok (.iconst 0, 1) := by decide +kernel
theorem dX12_tells_74 : decode cX12_tells 74 = .ok (.goto 15, 3) := by decide +kernel
theorem dX12_tells_77 : decode cX12_tells 77 = .ok (.iload 4, 2) := by decide +kernel
theorem dX12_tells_79 : decode cX12_tells 79 = .ok (.iload_n 2, 1) := by decide +kernel
theorem dX12_tells_80 : decode cX12_tells 80 = .ok (.if_icmp .le 7, 3) := by decide +kernel
theorem dX12_tells_83 : decode cX12_tells 83 = .ok (.iload_n 2, 1) := by decide +kernel
theorem dX12_tells_84 : decode cX12_tells 84 = .ok (.goto 5, 3) := by decide +kernel
theorem dX12_tells_87 : decode cX12_tells 87 = .ok (.iload 4, 2) := by decide +kernel
theorem dX12_tells_89 : decode cX12_tells 89 = .ok (.ireturn, 1) := by decide +kernel
theorem dX12_tells_90 : decode cX12_tells 90 = .ok (.iinc 3 1, 3) := by decide +kernel
theorem dX12_tells_93 : decode cX12_tells 93 = .ok (.goto (-91), 3) := by decide +kernel
theorem dX12_tells_96 : decode cX12_tells 96 = .ok (.iconst 0, 1) := by decide +kernel
theorem dX12_tells_97 : decode cX12_tells 97 = .ok (.ireturn, 1) := by decide +kernel
theorem dX12_wouldEat_0 : decode cX12_wouldEat 0 = .ok (.aload_n 0, 1) := by decide +kernel
theorem dX12_wouldEat_1 : decode cX12_wouldEat 1 = .ok (.iload_n 2, 1) := by decide +kernel
theorem dX12_wouldEat_2 : decode cX12_wouldEat 2 = .ok (.putfield 352, 3) := by decide +kernel
theorem dX12_wouldEat_5 : decode cX12_wouldEat 5 = .ok (.aload_n 0, 1) := by decide +kernel
theorem dX12_wouldEat_6 : decode cX12_wouldEat 6 = .ok (.iload_n 1, 1) := by decide +kernel
theorem dX12_wouldEat_7 : decode cX12_wouldEat 7 = .ok (.putfield 349, 3) := by decide +kernel
theorem dX12_wouldEat_10 : decode cX12_wouldEat 10 = .ok (.iconst 0, 1) := by decide +kernel
theorem dX12_wouldEat_11 : decode cX12_wouldEat 11 = .ok (.istore_n 3, 1) := by decide +kernel
theorem dX12_wouldEat_12 : decode cX12_wouldEat 12 = .ok (.iload_n 3, 1) := by decide +kernel
theorem dX12_wouldEat_13 : decode cX12_wouldEat 13 = .ok (.aload_n 0, 1) := by decide +kernel
theorem dX12_wouldEat_14 : decode cX12_wouldEat 14 = .ok (.getfield 342, 3) := by decide +kernel
theorem dX12_wouldEat_17 : decode cX12_wouldEat 17 = .ok (.if_icmp .ge 30, 3) := by decide +kernel
theorem dX12_wouldEat_20 : decode cX12_wouldEat 20 = .ok (.aload_n 0, 1) := by decide +kernel
theorem dX12_wouldEat_21 : decode cX12_wouldEat 21 = .ok (.getfield 64, 3) := by decide +kernel
theorem dX12_wouldEat_24 : decode cX12_wouldEat 24 = .ok (.iload_n 3, 1) := by decide +kernel
theorem dX12_wouldEat_25 : decode cX12_wouldEat 25 = .ok (.iaload, 1) := by decide +kernel
theorem dX12_wouldEat_26 : decode cX12_wouldEat 26 = .ok (.bipush 110, 2) := by decide +kernel
theorem dX12_wouldEat_28 : decode cX12_wouldEat 28 = .ok (.if_icmp .ne 13, 3) := by decide +kernel
theorem dX12_wouldEat_31 : decode cX12_wouldEat 31 = .ok (.aload_n 0, 1) := by decide +kernel
theorem dX12_wouldEat_32 : decode cX12_wouldEat 32 = .ok (.iload_n 3, 1) := by decide +kernel
theorem dX12_wouldEat_33 : decode cX12_wouldEat 33 = .ok (.invokevirtual 378, 3) := by decide +kernel
theorem dX12_wouldEat_36 : decode cX12_wouldEat 36 = .ok (.ifCond .eq 5, 3) := by decide +kernel
theorem dX12_wouldEat_39 : decode cX12_wouldEat 39 = .ok (.iconst 0, 1) := by decide +kernel
theorem dX12_wouldEat_40 : decode cX12_wouldEat 40 = .ok (.ireturn, 1) := by decide +kernel
theorem dX12_wouldEat_41 : decode cX12_wouldEat 41 = .ok (.iinc 3 1, 3) := by decide +kernel
theorem dX12_wouldEat_44 : decode cX12_wouldEat 44 = .ok (.goto (-32), 3) := by decide +kernel
theorem dX12_wouldEat_47 : decode cX12_wouldEat 47 = .ok (.aload_n 0, 1) := by decide +kernel
theorem dX12_wouldEat_48 : decode cX12_wouldEat 48 = .ok (.bipush 101, 2) := by decide +kernel
theorem dX12_wouldEat_50 : decode cX12_wouldEat 50 = .ok (.sipush 999, 3) := by decide +kernel
theorem dX12_wouldEat_53 : decode cX12_wouldEat 53 = .ok (.invokevirtual 381, 3) := by decide +kernel
theorem dX12_wouldEat_56 : decode cX12_wouldEat 56 = .ok (.ireturn, 1) := by decide +kernel
theorem dX12_would_0 : decode cX12_would 0 = .ok (.aload_n 0, 1) := by decide +kernel
theorem dX12_would_1 : decode cX12_would 1 = .ok (.iload_n 1, 1) := by decide +kernel
theorem dX12_would_2 : decode cX12_would 2 = .ok (.invokevirtual 217, 3) := by decide +kernel
theorem dX12_would_5 : decode cX12_would 5 = .ok (.ifCond .eq 20, 3) := by decide +kernel
theorem dX12_would_8 : decode cX12_would 8 = .ok (.aload_n 0, 1) := by decide +kernel
theorem dX12_would_9 : decode cX12_would 9 = .ok (.iload_n 2, 1) := by decide +kernel
theorem dX12_would_10 : decode cX12_would 10 = .ok (.invokevirtual 222, 3) := by decide +kernel
theorem dX12_would_13 : decode cX12_would 13 = .ok (.ifCond .eq 12, 3) := by decide +kernel
theorem dX12_would_16 : decode cX12_would 16 = .ok (.aload_n 0, 1) := by decide +kernel
theorem dX12_would_17 : decode cX12_would 17 = .ok (.iload_n 1, 1) := by decide +kernel
theorem dX12_would_18 : decode cX12_would 18 = .ok (.iload_n 2, 1) := by decide +kernel
theorem dX12_would_19 : decode cX12_would 19 = .ok (.invokevirtual 384, 3) := by decide +kernel
theorem dX12_would_22 : decode cX12_would 22 = .ok (.goto 4, 3) := by decide +kernel
theorem dX12_would_25 : decode cX12_would 25 = .ok (.iconst (-1), 1) := by decide +kernel
theorem dX12_would_26 : decode cX12_would 26 = .ok (.ireturn, 1) := by decide +kernel
theorem dX12_choice_0 : decode cX12_choice 0 = .ok (.iconst (-1), 1) := by decide +kernel
theorem dX12_choice_1 : decode cX12_choice 1 = .ok (.istore_n 2, 1) := by decide +kernel
theorem dX12_choice_2 : decode cX12_choice 2 = .ok (.iconst 0, 1) := by decide +kernel
theorem dX12_choice_3 : decode cX12_choice 3 = .ok (.istore_n 3, 1) := by decide +kernel
theorem dX12_choice_4 : decode cX12_choice 4 = .ok (.iconst 0, 1) := by decide +kernel
theorem dX12_choice_5 : decode cX12_choice 5 = .ok (.istore 4, 2) := by decide +kernel
theorem dX12_choice_7 : decode cX12_choice 7 = .ok (.iload 4, 2) := by decide +kernel
theorem dX12_choice_9 : decode cX12_choice 9 = .ok (.aload_n 0, 1) := by decide +kernel
theorem dX12_choice_10 : decode cX12_choice 10 = .ok (.getfield 192, 3) := by decide +kernel
theorem dX12_choice_13 : decode cX12_choice 13 = .ok (.if_icmp .ge 56, 3) := by decide +kernel
theorem dX12_choice_16 : decode cX12_choice 16 = .ok (.aload_n 0, 1) := by decide +kernel
theorem dX12_choice_17 : decode cX12_choice 17 = .ok (.getfield 39, 3) := by decide +kernel
theorem dX12_choice_20 : decode cX12_choice 20 = .ok (.iload 4, 2) := by decide +kernel
theorem dX12_choice_22 : decode cX12_choice 22 = .ok (.baload, 1) := by decide +kernel
theorem dX12_choice_23 : decode cX12_choice 23 = .ok (.ifCond .eq 40, 3) := by decide +kernel
theorem dX12_choice_26 : decode cX12_choice 26 = .ok (.aload_n 0, 1) := by decide +kernel
theorem dX12_choice_27 : decode cX12_choice 27 = .ok (.getfield 27, 3) := by decide +kernel
theorem dX12_choice_30 : decode cX12_choice 30 = .ok (.iload 4, 2) := by decide +kernel
theorem dX12_choice_32 : decode cX12_choice 32 = .ok (.iaload, 1) := by decide +kernel
theorem dX12_choice_33 : decode cX12_choice 33 = .ok (.ifCond .ne 6, 3) := by decide +kernel
theorem dX12_choice_36 : decode cX12_choice 36 = .ok (.goto 27, 3) := by decide +kernel
theorem dX12_choice_39 : decode cX12_choice 39 = .ok (.aload_n 0, 1) := by decide +kernel
theorem dX12_choice_40 : decode cX12_choice 40 = .ok (.iload_n 1, 1) := by decide +kernel
theorem dX12_choice_41 : decode cX12_choice 41 = .ok (.iload 4, 2) := by decide +kernel
theorem dX12_choice_43 : decode cX12_choice 43 = .ok (.invokevirtual 384, 3) := by decide +kernel
theorem dX12_choice_46 : decode cX12_choice 46 = .ok (.istore 5, 2) := by decide +kernel
theorem dX12_choice_48 : decode cX12_choice 48 = .ok (.iload 5, 2) := by decide +kernel
theorem dX12_choice_50 : decode cX12_choice 50 = .ok (.iload_n 3, 1) := by decide +kernel
theorem dX12_choice_51 : decode cX12_choice 51 = .ok (.if_icmp .gt 6, 3) := by decide +kernel
theorem dX12_choice_54 : decode cX12_choice 54 = .ok (.goto 9, 3) := by decide +kernel
theorem dX12_choice_57 : decode cX12_choice 57 = .ok (.iload 4, 2) := by decide +kernel
theorem dX12_choice_59 : decode cX12_choice 59 = .ok (.istore_n 2, 1) := by decide +kernel
theorem dX12_choice_60 : decode cX12_choice 60 = .ok (.iload 5, 2) := by decide +kernel
theorem dX12_choice_62 : decode cX12_choice 62 = .ok (.istore_n 3, 1) := by decide +kernel
theorem dX12_choice_63 : decode cX12_choice 63 = .ok (.iinc 4 1, 3) := by decide +kernel
theorem dX12_choice_66 : decode cX12_choice 66 = .ok (.goto (-59), 3) := by decide +kernel
theorem dX12_choice_69 : decode cX12_choice 69 = .ok (.iload_n 2, 1) := by decide +kernel
theorem dX12_choice_70 : decode cX12_choice 70 = .ok (.ireturn, 1) := by decide +kernel
theorem dX12_chooses_0 : decode cX12_chooses 0 = .ok (.aload_n 0, 1) := by decide +kernel
theorem dX12_chooses_1 : decode cX12_chooses 1 = .ok (.iload_n 1, 1) := by decide +kernel
theorem dX12_chooses_2 : decode cX12_chooses 2 = .ok (.invokevirtual 217, 3) := by decide +kernel
theorem dX12_chooses_5 : decode cX12_chooses 5 = .ok (.ifCond .eq 11, 3) := by decide +kernel
theorem dX12_chooses_8 : decode cX12_chooses 8 = .ok (.aload_n 0, 1) := by decide +kernel
theorem dX12_chooses_9 : decode cX12_chooses 9 = .ok (.iload_n 1, 1) := by decide +kernel
theorem dX12_chooses_10 : decode cX12_chooses 10 = .ok (.invokevirtual 387, 3) := by decide +kernel
theorem dX12_chooses_13 : decode cX12_chooses 13 = .ok (.goto 4, 3) := by decide +kernel
theorem dX12_chooses_16 : decode cX12_chooses 16 = .ok (.iconst (-1), 1) := by decide +kernel
theorem dX12_chooses_17 : decode cX12_chooses 17 = .ok (.ireturn, 1) := by decide +kernel
theorem dX12_dayOne_0 : decode cX12_dayOne 0 = .ok (.iconst 0, 1) := by decide +kernel
theorem dX12_dayOne_1 : decode cX12_dayOne 1 = .ok (.istore_n 1, 1) := by decide +kernel
theorem dX12_dayOne_2 : decode cX12_dayOne 2 = .ok (.iload_n 1, 1) := by decide +kernel
theorem dX12_dayOne_3 : decode cX12_dayOne 3 = .ok (.aload_n 0, 1) := by decide +kernel
theorem dX12_dayOne_4 : decode cX12_dayOne 4 = .ok (.getfield 199, 3) := by decide +kernel
theorem dX12_dayOne_7 : decode cX12_dayOne 7 = .ok (.if_icmp .ge 128, 3) := by decide +kernel
theorem dX12_dayOne_10 : decode cX12_dayOne 10 = .ok (.aload_n 0, 1) := by decide +kernel
theorem dX12_dayOne_11 : decode cX12_dayOne 11 = .ok (.iload_n 1, 1) := by decide +kernel
theorem dX12_dayOne_12 : decode cX12_dayOne 12 = .ok (.invokevirtual 387, 3) := by decide +kernel
theorem dX12_dayOne_15 : decode cX12_dayOne 15 = .ok (.istore_n 2, 1) := by decide +kernel
theorem dX12_dayOne_16 : decode cX12_dayOne 16 = .ok (.aload_n 0, 1) := by decide +kernel
theorem dX12_dayOne_17 : decode cX12_dayOne 17 = .ok (.getfield 109, 3) := by decide +kernel
theorem dX12_dayOne_20 : decode cX12_dayOne 20 = .ok (.iload_n 1, 1) := by decide +kernel
theorem dX12_dayOne_21 : decode cX12_dayOne 21 = .ok (.iload_n 2, 1) := by decide +kernel
theorem dX12_dayOne_22 : decode cX12_dayOne 22 = .ok (.iastore, 1) := by decide +kernel
theorem dX12_dayOne_23 : decode cX12_dayOne 23 = .ok (.iload_n 2, 1) := by decide +kernel
theorem dX12_dayOne_24 : decode cX12_dayOne 24 = .ok (.iconst (-1), 1) := by decide +kernel
theorem dX12_dayOne_25 : decode cX12_dayOne 25 = .ok (.if_icmp .ne 6, 3) := by decide +kernel
theorem dX12_dayOne_28 : decode cX12_dayOne 28 = .ok (.goto 101, 3) := by decide +kernel
theorem dX12_dayOne_31 : decode cX12_dayOne 31 = .ok (.aload_n 0, 1) := by decide +kernel
theorem dX12_dayOne_32 : decode cX12_dayOne 32 = .ok (.getfield 49, 3) := by decide +kernel
theorem dX12_dayOne_35 : decode cX12_dayOne 35 = .ok (.iload_n 1, 1) := by decide +kernel
theorem dX12_dayOne_36 : decode cX12_dayOne 36 = .ok (.iaload, 1) := by decide +kernel
theorem dX12_dayOne_37 : decode cX12_dayOne 37 = .ok (.aload_n 0, 1) := by decide +kernel
theorem dX12_dayOne_38 : decode cX12_dayOne 38 = .ok (.getfield 27, 3) := by decide +kernel
theorem dX12_dayOne_41 : decode cX12_dayOne 41 = .ok (.iload_n 2, 1) := by decide +kernel
theorem dX12_dayOne_42 : decode cX12_dayOne 42 = .ok (.iaload, 1) := by decide +kernel
theorem dX12_dayOne_43 : decode cX12_dayOne 43 = .ok (.if_icmp .ge 12, 3) := by decide +kernel
theorem dX12_dayOne_46 : decode cX12_dayOne 46 = .ok (.aload_n 0, 1) := by decide +kernel
theorem dX12_dayOne_47 : decode cX12_dayOne 47 = .ok (.getfield 49, 3) := by decide +kernel
theorem dX12_dayOne_50 : decode cX12_dayOne 50 = .ok (.iload_n 1, 1) := by decide +kernel
theorem dX12_dayOne_51 : decode cX12_dayOne 51 = .ok (.iaload, 1) := by decide +kernel
theorem dX12_dayOne_52 : decode cX12_dayOne 52 = .ok (.goto 9, 3) := by decide +kernel
theorem dX12_dayOne_55 : decode cX12_dayOne 55 = .ok (.aload_n 0, 1) := by decide +kernel
theorem dX12_dayOne_56 : decode cX12_dayOne 56 = .ok (.getfield 27, 3) := by decide +kernel
theorem dX12_dayOne_59 : decode cX12_dayOne 59 = .ok (.iload_n 2, 1) := by decide +kernel
theorem dX12_dayOne_60 : decode cX12_dayOne 60 = .ok (.iaload, 1) := by decide +kernel
theorem dX12_dayOne_61 : decode cX12_dayOne 61 = .ok (.istore_n 3, 1) := by decide +kernel
theorem dX12_dayOne_62 : decode cX12_dayOne 62 = .ok (.aload_n 0, 1) := by decide +kernel
theorem dX12_dayOne_63 : decode cX12_dayOne 63 = .ok (.getfield 27, 3) := by decide +kernel
theorem dX12_dayOne_66 : decode cX12_dayOne 66 = .ok (.iload_n 2, 1) := by decide +kernel
theorem dX12_dayOne_67 : decode cX12_dayOne 67 = .ok (.dup2, 1) := by decide +kernel
theorem dX12_dayOne_68 : decode cX12_dayOne 68 = .ok (.iaload, 1) := by decide +kernel
theorem dX12_dayOne_69 : decode cX12_dayOne 69 = .ok (.iload_n 3, 1) := by decide +kernel
theorem dX12_dayOne_70 : decode cX12_dayOne 70 = .ok (.isub, 1) := by decide +kernel
theorem dX12_dayOne_71 : decode cX12_dayOne 71 = .ok (.iastore, 1) := by decide +kernel
theorem dX12_dayOne_72 : decode cX12_dayOne 72 = .ok (.aload_n 0, 1) := by decide +kernel
theorem dX12_dayOne_73 : decode cX12_dayOne 73 = .ok (.dup, 1) := by decide +kernel
theorem dX12_dayOne_74 : decode cX12_dayOne 74 = .ok (.getfield 390, 3) := by decide +kernel
theorem dX12_dayOne_77 : decode cX12_dayOne 77 = .ok (.iload_n 3, 1) := by decide +kernel
theorem dX12_dayOne_78 : decode cX12_dayOne 78 = .ok (.iadd, 1) := by decide +kernel
theorem dX12_dayOne_79 : decode cX12_dayOne 79 = .ok (.putfield 390, 3) := by decide +kernel
theorem dX12_dayOne_82 : decode cX12_dayOne 82 = .ok (.aload_n 0, 1) := by decide +kernel
theorem dX12_dayOne_83 : decode cX12_dayOne 83 = .ok (.getfield 61, 3) := by decide +kernel
theorem dX12_dayOne_86 : decode cX12_dayOne 86 = .ok (.bipush 16, 2) := by decide +kernel
theorem dX12_dayOne_88 : decode cX12_dayOne 88 = .ok (.iload_n 2, 1) := by decide +kernel
theorem dX12_dayOne_89 : decode cX12_dayOne 89 = .ok (.imul, 1) := by decide +kernel
theorem dX12_dayOne_90 : decode cX12_dayOne 90 = .ok (.iload_n 1, 1) := by decide +kernel
theorem dX12_dayOne_91 : decode cX12_dayOne 91 = .ok (.iadd, 1) := by decide +kernel
theorem dX12_dayOne_92 : decode cX12_dayOne 92 = .ok (.dup2, 1) := by decide +kernel
theorem dX12_dayOne_93 : decode cX12_dayOne 93 = .ok (.iaload, 1) := by decide +kernel
theorem dX12_dayOne_94 : decode cX12_dayOne 94 = .ok (.iload_n 3, 1) := by decide +kernel
theorem dX12_dayOne_95 : decode cX12_dayOne 95 = .ok (.iadd, 1) := by decide +kernel
theorem dX12_dayOne_96 : decode cX12_dayOne 96 = .ok (.iastore, 1) := by decide +kernel
theorem dX12_dayOne_97 : decode cX12_dayOne 97 = .ok (.aload_n 0, 1) := by decide +kernel
theorem dX12_dayOne_98 : decode cX12_dayOne 98 = .ok (.getfield 58, 3) := by decide +kernel
theorem dX12_dayOne_101 : decode cX12_dayOne 101 = .ok (.aload_n 0, 1) := by decide +kernel
theorem dX12_dayOne_102 : decode cX12_dayOne 102 = .ok (.getfield 24, 3) := by decide +kernel
theorem dX12_dayOne_105 : decode cX12_dayOne 105 = .ok (.iload_n 2, 1) := by decide +kernel
theorem dX12_dayOne_106 : decode cX12_dayOne 106 = .ok (.iaload, 1) := by decide +kernel
theorem dX12_dayOne_107 : decode cX12_dayOne 107 = .ok (.dup2, 1) := by decide +kernel
theorem dX12_dayOne_108 : decode cX12_dayOne 108 = .ok (.iaload, 1) := by decide +kernel
theorem dX12_dayOne_109 : decode cX12_dayOne 109 = .ok (.aload_n 0, 1) := by decide +kernel
theorem dX12_dayOne_110 : decode cX12_dayOne 110 = .ok (.getfield 46, 3) := by decide +kernel
theorem dX12_dayOne_113 : decode cX12_dayOne 113 = .ok (.iload_n 1, 1) := by decide +kernel
theorem dX12_dayOne_114 : decode cX12_dayOne 114 = .ok (.iaload, 1) := by decide +kernel
theorem dX12_dayOne_115 : decode cX12_dayOne 115 = .ok (.iadd, 1) := by decide +kernel
theorem dX12_dayOne_116 : decode cX12_dayOne 116 = .ok (.iastore, 1) := by decide +kernel
theorem dX12_dayOne_117 : decode cX12_dayOne 117 = .ok (.aload_n 0, 1) := by decide +kernel
theorem dX12_dayOne_118 : decode cX12_dayOne 118 = .ok (.getfield 52, 3) := by decide +kernel
theorem dX12_dayOne_121 : decode cX12_dayOne 121 = .ok (.iload_n 1, 1) := by decide +kernel
theorem dX12_dayOne_122 : decode cX12_dayOne 122 = .ok (.aload_n 0, 1) := by decide +kernel
theorem dX12_dayOne_123 : decode cX12_dayOne 123 = .ok (.getfield 24, 3) := by decide +kernel
theorem dX12_dayOne_126 : decode cX12_dayOne 126 = .ok (.iload_n 2, 1) := by decide +kernel
theorem dX12_dayOne_127 : decode cX12_dayOne 127 = .ok (.iaload, 1) := by decide +kernel
theorem dX12_dayOne_128 : decode cX12_dayOne 128 = .ok (.iastore, 1) := by decide +kernel
theorem dX12_dayOne_129 : decode cX12_dayOne 129 = .ok (.iinc 1 1, 3) := by decide +kernel
theorem dX12_dayOne_132 : decode cX12_dayOne 132 = .ok (.goto (-130), 3) := by decide +kernel
theorem dX12_dayOne_135 : decode cX12_dayOne 135 = .ok (.iconst 0, 1) := by decide +kernel
theorem dX12_dayOne_136 : decode cX12_dayOne 136 = .ok (.istore_n 1, 1) := by decide +kernel
theorem dX12_dayOne_137 : decode cX12_dayOne 137 = .ok (.iload_n 1, 1) := by decide +kernel
theorem dX12_dayOne_138 : decode cX12_dayOne 138 = .ok (.aload_n 0, 1) := by decide +kernel
theorem dX12_dayOne_139 : decode cX12_dayOne 139 = .ok (.getfield 192, 3) := by decide +kernel
theorem dX12_dayOne_142 : decode cX12_dayOne 142 = .ok (.if_icmp .ge 87, 3) := by decide +kernel
theorem dX12_dayOne_145 : decode cX12_dayOne 145 = .ok (.aload_n 0, 1) := by decide +kernel
theorem dX12_dayOne_146 : decode cX12_dayOne 146 = .ok (.getfield 39, 3) := by decide +kernel
theorem dX12_dayOne_149 : decode cX12_dayOne 149 = .ok (.iload_n 1, 1) := by decide +kernel
theorem dX12_dayOne_150 : decode cX12_dayOne 150 = .ok (.baload, 1) := by decide +kernel
theorem dX12_dayOne_151 : decode cX12_dayOne 151 = .ok (.ifCond .ne 6, 3) := by decide +kernel
theorem dX12_dayOne_154 : decode cX12_dayOne 154 = .ok (.goto 69, 3) := by decide +kernel
theorem dX12_dayOne_157 : decode cX12_dayOne 157 = .ok (.aload_n 0, 1) := by decide +kernel
theorem dX12_dayOne_158 : decode cX12_dayOne 158 = .ok (.iload_n 1, 1) := by decide +kernel
theorem dX12_dayOne_159 : decode cX12_dayOne 159 = .ok (.putfield 352, 3) := by decide +kernel
theorem dX12_dayOne_162 : decode cX12_dayOne 162 = .ok (.aload_n 0, 1) := by decide +kernel
theorem dX12_dayOne_163 : decode cX12_dayOne 163 = .ok (.iconst (-1), 1) := by decide +kernel
theorem dX12_dayOne_164 : decode cX12_dayOne 164 = .ok (.putfield 349, 3) := by decide +kernel
theorem dX12_dayOne_167 : decode cX12_dayOne 167 = .ok (.aload_n 0, 1) := by decide +kernel
theorem dX12_dayOne_168 : decode cX12_dayOne 168 = .ok (.getfield 36, 3) := by decide +kernel
theorem dX12_dayOne_171 : decode cX12_dayOne 171 = .ok (.iload_n 1, 1) := by decide +kernel
theorem dX12_dayOne_172 : decode cX12_dayOne 172 = .ok (.dup2, 1) := by decide +kernel
theorem dX12_dayOne_173 : decode cX12_dayOne 173 = .ok (.iaload, 1) := by decide +kernel
theorem dX12_dayOne_174 : decode cX12_dayOne 174 = .ok (.aload_n 0, 1) := by decide +kernel
theorem dX12_dayOne_175 : decode cX12_dayOne 175 = .ok (.bipush 103, 2) := by decide +kernel
theorem dX12_dayOne_177 : decode cX12_dayOne 177 = .ok (.bipush 99, 2) := by decide +kernel
theorem dX12_dayOne_179 : decode cX12_dayOne 179 = .ok (.invokevirtual 381, 3) := by decide +kernel
theorem dX12_dayOne_182 : decode cX12_dayOne 182 = .ok (.iadd, 1) := by decide +kernel
theorem dX12_dayOne_183 : decode cX12_dayOne 183 = .ok (.iastore, 1) := by decide +kernel
theorem dX12_dayOne_184 : decode cX12_dayOne 184 = .ok (.aload_n 0, 1) := by decide +kernel
theorem dX12_dayOne_185 : decode cX12_dayOne 185 = .ok (.getfield 36, 3) := by decide +kernel
theorem dX12_dayOne_188 : decode cX12_dayOne 188 = .ok (.iload_n 1, 1) := by decide +kernel
theorem dX12_dayOne_189 : decode cX12_dayOne 189 = .ok (.iaload, 1) := by decide +kernel
theorem dX12_dayOne_190 : decode cX12_dayOne 190 = .ok (.sipush 500, 3) := by decide +kernel
theorem dX12_dayOne_193 : decode cX12_dayOne 193 = .ok (.if_icmp .ge 6, 3) := by decide +kernel
theorem dX12_dayOne_196 : decode cX12_dayOne 196 = .ok (.goto 27, 3) := by decide +kernel
theorem dX12_dayOne_199 : decode cX12_dayOne 199 = .ok (.aload_n 0, 1) := by decide +kernel
theorem dX12_dayOne_200 : decode cX12_dayOne 200 = .ok (.getfield 39, 3) := by decide +kernel
theorem dX12_dayOne_203 : decode cX12_dayOne 203 = .ok (.iload_n 1, 1) := by decide +kernel
theorem dX12_dayOne_204 : decode cX12_dayOne 204 = .ok (.iconst 0, 1) := by decide +kernel
theorem dX12_dayOne_205 : decode cX12_dayOne 205 = .ok (.bastore, 1) := by decide +kernel
theorem dX12_dayOne_206 : decode cX12_dayOne 206 = .ok (.aload_n 0, 1) := by decide +kernel
theorem dX12_dayOne_207 : decode cX12_dayOne 207 = .ok (.getfield 27, 3) := by decide +kernel
theorem dX12_dayOne_210 : decode cX12_dayOne 210 = .ok (.iload_n 1, 1) := by decide +kernel
theorem dX12_dayOne_211 : decode cX12_dayOne 211 = .ok (.iconst 0, 1) := by decide +kernel
theorem dX12_dayOne_212 : decode cX12_dayOne 212 = .ok (.iastore, 1) := by decide +kernel
theorem dX12_dayOne_213 : decode cX12_dayOne 213 = .ok (.aload_n 0, 1) := by decide +kernel
theorem dX12_dayOne_214 : decode cX12_dayOne 214 = .ok (.dup, 1) := by decide +kernel
theorem dX12_dayOne_215 : decode cX12_dayOne 215 = .ok (.getfield 393, 3) := by decide +kernel
theorem dX12_dayOne_218 : decode cX12_dayOne 218 = .ok (.iconst 1, 1) := by decide +kernel
theorem dX12_dayOne_219 : decode cX12_dayOne 219 = .ok (.iadd, 1) := by decide +kernel
theorem dX12_dayOne_220 : decode cX12_dayOne 220 = .ok (.putfield 393, 3) := by decide +kernel
theorem dX12_dayOne_223 : decode cX12_dayOne 223 = .ok (.iinc 1 1, 3) := by decide +kernel
theorem dX12_dayOne_226 : decode cX12_dayOne 226 = .ok (.goto (-89), 3) := by decide +kernel
theorem dX12_dayOne_229 : decode cX12_dayOne 229 = .ok (.aload_n 0, 1) := by decide +kernel
theorem dX12_dayOne_230 : decode cX12_dayOne 230 = .ok (.dup, 1) := by decide +kernel
theorem dX12_dayOne_231 : decode cX12_dayOne 231 = .ok (.getfield 359, 3) := by decide +kernel
theorem dX12_dayOne_234 : decode cX12_dayOne 234 = .ok (.iconst 1, 1) := by decide +kernel
theorem dX12_dayOne_235 : decode cX12_dayOne 235 = .ok (.iadd, 1) := by decide +kernel
theorem dX12_dayOne_236 : decode cX12_dayOne 236 = .ok (.putfield 359, 3) := by decide +kernel
theorem dX12_dayOne_239 : decode cX12_dayOne 239 = .ok (.return_, 1) := by decide +kernel
theorem dX12_areDays_0 : decode cX12_areDays 0 = .ok (.iload_n 0, 1) := by decide +kernel
theorem dX12_areDays_1 : decode cX12_areDays 1 = .ok (.i2l, 1) := by decide +kernel
theorem dX12_areDays_2 : decode cX12_areDays 2 = .ok (.lconst 1, 1) := by decide +kernel
theorem dX12_areDays_3 : decode cX12_areDays 3 = .ok (.ldc2_w 396, 3) := by decide +kernel
theorem dX12_areDays_6 : decode cX12_areDays 6 = .ok (.invokestatic 188, 3) := by decide +kernel
theorem dX12_areDays_9 : decode cX12_areDays 9 = .ok (.ireturn, 1) := by decide +kernel
theorem dX12_days_0 : decode cX12_days 0 = .ok (.iload_n 1, 1) := by decide +kernel
theorem dX12_days_1 : decode cX12_days 1 = .ok (.invokestatic 398, 3) := by decide +kernel
theorem dX12_days_4 : decode cX12_days 4 = .ok (.ifCond .ne 5, 3) := by decide +kernel
theorem dX12_days_7 : decode cX12_days 7 = .ok (.iconst (-1), 1) := by decide +kernel
theorem dX12_days_8 : decode cX12_days 8 = .ok (.ireturn, 1) := by decide +kernel
theorem dX12_days_9 : decode cX12_days 9 = .ok (.aload_n 0, 1) := by decide +kernel
theorem dX12_days_10 : decode cX12_days 10 = .ok (.iconst 0, 1) := by decide +kernel
theorem dX12_days_11 : decode cX12_days 11 = .ok (.putfield 390, 3) := by decide +kernel
theorem dX12_days_14 : decode cX12_days 14 = .ok (.iconst 0, 1) := by decide +kernel
theorem dX12_days_15 : decode cX12_days 15 = .ok (.istore_n 2, 1) := by decide +kernel
theorem dX12_days_16 : decode cX12_days 16 = .ok (.iload_n 2, 1) := by decide +kernel
theorem dX12_days_17 : decode cX12_days 17 = .ok (.iload_n 1, 1) := by decide +kernel
theorem dX12_days_18 : decode cX12_days 18 = .ok (.if_icmp .ge 13, 3) := by decide +kernel
theorem dX12_days_21 : decode cX12_days 21 = .ok (.aload_n 0, 1) := by decide +kernel
theorem dX12_days_22 : decode cX12_days 22 = .ok (.invokevirtual 401, 3) := by decide +kernel
theorem dX12_days_25 : decode cX12_days 25 = .ok (.iinc 2 1, 3) := by decide +kernel
theorem dX12_days_28 : decode cX12_days 28 = .ok (.goto (-12), 3) := by decide +kernel
theorem dX12_days_31 : decode cX12_days 31 = .ok (.aload_n 0, 1) := by decide +kernel
theorem dX12_days_32 : decode cX12_days 32 = .ok (.getfield 390, 3) := by decide +kernel
theorem dX12_days_35 : decode cX12_days 35 = .ok (.ireturn, 1) := by decide +kernel
theorem dX12_setsAside_0 : decode cX12_setsAside 0 = .ok (.iconst 0, 1) := by decide +kernel
theorem dX12_setsAside_1 : decode cX12_setsAside 1 = .ok (.istore_n 2, 1) := by decide +kernel
theorem dX12_setsAside_2 : decode cX12_setsAside 2 = .ok (.iload_n 2, 1) := by decide +kernel
theorem dX12_setsAside_3 : decode cX12_setsAside 3 = .ok (.bipush 12, 2) := by decide +kernel
theorem dX12_setsAside_5 : decode cX12_setsAside 5 = .ok (.if_icmp .ge 128, 3) := by decide +kernel
theorem dX12_setsAside_8 : decode cX12_setsAside 8 = .ok (.aload_n 0, 1) := by decide +kernel
theorem dX12_setsAside_9 : decode cX12_setsAside 9 = .ok (.getfield 112, 3) := by decide +kernel
theorem dX12_setsAside_12 : decode cX12_setsAside 12 = .ok (.bipush 12, 2) := by decide +kernel
theorem dX12_setsAside_14 : decode cX12_setsAside 14 = .ok (.iload_n 1, 1) := by decide +kernel
theorem dX12_setsAside_15 : decode cX12_setsAside 15 = .ok (.imul, 1) := by decide +kernel
theorem dX12_setsAside_16 : decode cX12_setsAside 16 = .ok (.iload_n 2, 1) := by decide +kernel
theorem dX12_setsAside_17 : decode cX12_setsAside 17 = .ok (.iadd, 1) := by decide +kernel
theorem dX12_setsAside_18 : decode cX12_setsAside 18 = .ok (.aload_n 0, 1) := by decide +kernel
theorem dX12_setsAside_19 : decode cX12_setsAside 19 = .ok (.getfield 20, 3) := by decide +kernel
theorem dX12_setsAside_22 : decode cX12_setsAside 22 = .ok (.iload_n 2, 1) := by decide +kernel
theorem dX12_setsAside_23 : decode cX12_setsAside 23 = .ok (.iaload, 1) := by decide +kernel
theorem dX12_setsAside_24 : decode cX12_setsAside 24 = .ok (.iastore, 1) := by decide +kernel
theorem dX12_setsAside_25 : decode cX12_setsAside 25 = .ok (.aload_n 0, 1) := by decide +kernel
theorem dX12_setsAside_26 : decode cX12_setsAside 26 = .ok (.getfield 115, 3) := by decide +kernel
theorem dX12_setsAside_29 : decode cX12_setsAside 29 = .ok (.bipush 12, 2) := by decide +kernel
theorem dX12_setsAside_31 : decode cX12_setsAside 31 = .ok (.iload_n 1, 1) := by decide +kernel
theorem dX12_setsAside_32 : decode cX12_setsAside 32 = .ok (.imul, 1) := by decide +kernel
theorem dX12_setsAside_33 : decode cX12_setsAside 33 = .ok (.iload_n 2, 1) := by decide +kernel
theorem dX12_setsAside_34 : decode cX12_setsAside 34 = .ok (.iadd, 1) := by decide +kernel
theorem dX12_setsAside_35 : decode cX12_setsAside 35 = .ok (.aload_n 0, 1) := by decide +kernel
theorem dX12_setsAside_36 : decode cX12_setsAside 36 = .ok (.getfield 24, 3) := by decide +kernel
theorem dX12_setsAside_39 : decode cX12_setsAside 39 = .ok (.iload_n 2, 1) := by decide +kernel
theorem dX12_setsAside_40 : decode cX12_setsAside 40 = .ok (.iaload, 1) := by decide +kernel
theorem dX12_setsAside_41 : decode cX12_setsAside 41 = .ok (.iastore, 1) := by decide +kernel
theorem dX12_setsAside_42 : decode cX12_setsAside 42 = .ok (.aload_n 0, 1) := by decide +kernel
theorem dX12_setsAside_43 : decode cX12_setsAside 43 = .ok (.getfield 118, 3) := by decide +kernel
theorem dX12_setsAside_46 : decode cX12_setsAside 46 = .ok (.bipush 12, 2) := by decide +kernel
theorem dX12_setsAside_48 : decode cX12_setsAside 48 = .ok (.iload_n 1, 1) := by decide +kernel
theorem dX12_setsAside_49 : decode cX12_setsAside 49 = .ok (.imul, 1) := by decide +kernel
theorem dX12_setsAside_50 : decode cX12_setsAside 50 = .ok (.iload_n 2, 1) := by decide +kernel
theorem dX12_setsAside_51 : decode cX12_setsAside 51 = .ok (.iadd, 1) := by decide +kernel
theorem dX12_setsAside_52 : decode cX12_setsAside 52 = .ok (.aload_n 0, 1) := by decide +kernel
theorem dX12_setsAside_53 : decode cX12_setsAside 53 = .ok (.getfield 27, 3) := by decide +kernel
theorem dX12_setsAside_56 : decode cX12_setsAside 56 = .ok (.iload_n 2, 1) := by decide +kernel
theorem dX12_setsAside_57 : decode cX12_setsAside 57 = .ok (.iaload, 1) := by decide +kernel
theorem dX12_setsAside_58 : decode cX12_setsAside 58 = .ok (.iastore, 1) := by decide +kernel
theorem dX12_setsAside_59 : decode cX12_setsAside 59 = .ok (.aload_n 0, 1) := by decide +kernel
theorem dX12_setsAside_60 : decode cX12_setsAside 60 = .ok (.getfield 121, 3) := by decide +kernel
theorem dX12_setsAside_63 : decode cX12_setsAside 63 = .ok (.bipush 12, 2) := by decide +kernel
theorem dX12_setsAside_65 : decode cX12_setsAside 65 = .ok (.iload_n 1, 1) := by decide +kernel
theorem dX12_setsAside_66 : decode cX12_setsAside 66 = .ok (.imul, 1) := by decide +kernel
theorem dX12_setsAside_67 : decode cX12_setsAside 67 = .ok (.iload_n 2, 1) := by decide +kernel
theorem dX12_setsAside_68 : decode cX12_setsAside 68 = .ok (.iadd, 1) := by decide +kernel
theorem dX12_setsAside_69 : decode cX12_setsAside 69 = .ok (.aload_n 0, 1) := by decide +kernel
theorem dX12_setsAside_70 : decode cX12_setsAside 70 = .ok (.getfield 30, 3) := by decide +kernel
theorem dX12_setsAside_73 : decode cX12_setsAside 73 = .ok (.iload_n 2, 1) := by decide +kernel
theorem dX12_setsAside_74 : decode cX12_setsAside 74 = .ok (.iaload, 1) := by decide +kernel
theorem dX12_setsAside_75 : decode cX12_setsAside 75 = .ok (.iastore, 1) := by decide +kernel
theorem dX12_setsAside_76 : decode cX12_setsAside 76 = .ok (.aload_n 0, 1) := by decide +kernel
theorem dX12_setsAside_77 : decode cX12_setsAside 77 = .ok (.getfield 124, 3) := by decide +kernel
theorem dX12_setsAside_80 : decode cX12_setsAside 80 = .ok (.bipush 12, 2) := by decide +kernel
theorem dX12_setsAside_82 : decode cX12_setsAside 82 = .ok (.iload_n 1, 1) := by decide +kernel
theorem dX12_setsAside_83 : decode cX12_setsAside 83 = .ok (.imul, 1) := by decide +kernel
theorem dX12_setsAside_84 : decode cX12_setsAside 84 = .ok (.iload_n 2, 1) := by decide +kernel
theorem dX12_setsAside_85 : decode cX12_setsAside 85 = .ok (.iadd, 1) := by decide +kernel
theorem dX12_setsAside_86 : decode cX12_setsAside 86 = .ok (.aload_n 0, 1) := by decide +kernel
theorem dX12_setsAside_87 : decode cX12_setsAside 87 = .ok (.getfield 33, 3) := by decide +kernel
theorem dX12_setsAside_90 : decode cX12_setsAside 90 = .ok (.iload_n 2, 1) := by decide +kernel
theorem dX12_setsAside_91 : decode cX12_setsAside 91 = .ok (.iaload, 1) := by decide +kernel
theorem dX12_setsAside_92 : decode cX12_setsAside 92 = .ok (.iastore, 1) := by decide +kernel
theorem dX12_setsAside_93 : decode cX12_setsAside 93 = .ok (.aload_n 0, 1) := by decide +kernel
theorem dX12_setsAside_94 : decode cX12_setsAside 94 = .ok (.getfield 127, 3) := by decide +kernel
theorem dX12_setsAside_97 : decode cX12_setsAside 97 = .ok (.bipush 12, 2) := by decide +kernel
theorem dX12_setsAside_99 : decode cX12_setsAside 99 = .ok (.iload_n 1, 1) := by decide +kernel
theorem dX12_setsAside_100 : decode cX12_setsAside 100 = .ok (.imul, 1) := by decide +kernel
theorem dX12_setsAside_101 : decode cX12_setsAside 101 = .ok (.iload_n 2, 1) := by decide +kernel
theorem dX12_setsAside_102 : decode cX12_setsAside 102 = .ok (.iadd, 1) := by decide +kernel
theorem dX12_setsAside_103 : decode cX12_setsAside 103 = .ok (.aload_n 0, 1) := by decide +kernel
theorem dX12_setsAside_104 : decode cX12_setsAside 104 = .ok (.getfield 36, 3) := by decide +kernel
theorem dX12_setsAside_107 : decode cX12_setsAside 107 = .ok (.iload_n 2, 1) := by decide +kernel
theorem dX12_setsAside_108 : decode cX12_setsAside 108 = .ok (.iaload, 1) := by decide +kernel
theorem dX12_setsAside_109 : decode cX12_setsAside 109 = .ok (.iastore, 1) := by decide +kernel
theorem dX12_setsAside_110 : decode cX12_setsAside 110 = .ok (.aload_n 0, 1) := by decide +kernel
theorem dX12_setsAside_111 : decode cX12_setsAside 111 = .ok (.getfield 130, 3) := by decide +kernel
theorem dX12_setsAside_114 : decode cX12_setsAside 114 = .ok (.bipush 12, 2) := by decide +kernel
theorem dX12_setsAside_116 : decode cX12_setsAside 116 = .ok (.iload_n 1, 1) := by decide +kernel
theorem dX12_setsAside_117 : decode cX12_setsAside 117 = .ok (.imul, 1) := by decide +kernel
theorem dX12_setsAside_118 : decode cX12_setsAside 118 = .ok (.iload_n 2, 1) := by decide +kernel
theorem dX12_setsAside_119 : decode cX12_setsAside 119 = .ok (.iadd, 1) := by decide +kernel
theorem dX12_setsAside_120 : decode cX12_setsAside 120 = .ok (.aload_n 0, 1) := by decide +kernel
theorem dX12_setsAside_121 : decode cX12_setsAside 121 = .ok (.getfield 39, 3) := by decide +kernel
theorem dX12_setsAside_124 : decode cX12_setsAside 124 = .ok (.iload_n 2, 1) := by decide +kernel
theorem dX12_setsAside_125 : decode cX12_setsAside 125 = .ok (.baload, 1) := by decide +kernel
theorem dX12_setsAside_126 : decode cX12_setsAside 126 = .ok (.bastore, 1) := by decide +kernel
theorem dX12_setsAside_127 : decode cX12_setsAside 127 = .ok (.iinc 2 1, 3) := by decide +kernel
theorem dX12_setsAside_130 : decode cX12_setsAside 130 = .ok (.goto (-128), 3) := by decide +kernel
theorem dX12_setsAside_133 : decode cX12_setsAside 133 = .ok (.iconst 0, 1) := by decide +kernel
theorem dX12_setsAside_134 : decode cX12_setsAside 134 = .ok (.istore_n 2, 1) := by decide +kernel
theorem dX12_setsAside_135 : decode cX12_setsAside 135 = .ok (.iload_n 2, 1) := by decide +kernel
theorem dX12_setsAside_136 : decode cX12_setsAside 136 = .ok (.bipush 16, 2) := by decide +kernel
theorem dX12_setsAside_138 : decode cX12_setsAside 138 = .ok (.if_icmp .ge 77, 3) := by decide +kernel
theorem dX12_setsAside_141 : decode cX12_setsAside 141 = .ok (.aload_n 0, 1) := by decide +kernel
theorem dX12_setsAside_142 : decode cX12_setsAside 142 = .ok (.getfield 133, 3) := by decide +kernel
theorem dX12_setsAside_145 : decode cX12_setsAside 145 = .ok (.bipush 16, 2) := by decide +kernel
theorem dX12_setsAside_147 : decode cX12_setsAside 147 = .ok (.iload_n 1, 1) := by decide +kernel
theorem dX12_setsAside_148 : decode cX12_setsAside 148 = .ok (.imul, 1) := by decide +kernel
theorem dX12_setsAside_149 : decode cX12_setsAside 149 = .ok (.iload_n 2, 1) := by decide +kernel
theorem dX12_setsAside_150 : decode cX12_setsAside 150 = .ok (.iadd, 1) := by decide +kernel
theorem dX12_setsAside_151 : decode cX12_setsAside 151 = .ok (.aload_n 0, 1) := by decide +kernel
theorem dX12_setsAside_152 : decode cX12_setsAside 152 = .ok (.getfield 43, 3) := by decide +kernel
theorem dX12_setsAside_155 : decode cX12_setsAside 155 = .ok (.iload_n 2, 1) := by decide +kernel
theorem dX12_setsAside_156 : decode cX12_setsAside 156 = .ok (.iaload, 1) := by decide +kernel
theorem dX12_setsAside_157 : decode cX12_setsAside 157 = .ok (.iastore, 1) := by decide +kernel
theorem dX12_setsAside_158 : decode cX12_setsAside 158 = .ok (.aload_n 0, 1) := by decide +kernel
theorem dX12_setsAside_159 : decode cX12_setsAside 159 = .ok (.getfield 136, 3) := by decide +kernel
theorem dX12_setsAside_162 : decode cX12_setsAside 162 = .ok (.bipush 16, 2) := by decide +kernel
theorem dX12_setsAside_164 : decode cX12_setsAside 164 = .ok (.iload_n 1, 1) := by decide +kernel
theorem dX12_setsAside_165 : decode cX12_setsAside 165 = .ok (.imul, 1) := by decide +kernel
theorem dX12_setsAside_166 : decode cX12_setsAside 166 = .ok (.iload_n 2, 1) := by decide +kernel
theorem dX12_setsAside_167 : decode cX12_setsAside 167 = .ok (.iadd, 1) := by decide +kernel
theorem dX12_setsAside_168 : decode cX12_setsAside 168 = .ok (.aload_n 0, 1) := by decide +kernel
theorem dX12_setsAside_169 : decode cX12_setsAside 169 = .ok (.getfield 46, 3) := by decide +kernel
theorem dX12_setsAside_172 : decode cX12_setsAside 172 = .ok (.iload_n 2, 1) := by decide +kernel
theorem dX12_setsAside_173 : decode cX12_setsAside 173 = .ok (.iaload, 1) := by decide +kernel
theorem dX12_setsAside_174 : decode cX12_setsAside 174 = .ok (.iastore, 1) := by decide +kernel
theorem dX12_setsAside_175 : decode cX12_setsAside 175 = .ok (.aload_n 0, 1) := by decide +kernel
theorem dX12_setsAside_176 : decode cX12_setsAside 176 = .ok (.getfield 139, 3) := by decide +kernel
theorem dX12_setsAside_179 : decode cX12_setsAside 179 = .ok (.bipush 16, 2) := by decide +kernel
theorem dX12_setsAside_181 : decode cX12_setsAside 181 = .ok (.iload_n 1, 1) := by decide +kernel
theorem dX12_setsAside_182 : decode cX12_setsAside 182 = .ok (.imul, 1) := by decide +kernel
theorem dX12_setsAside_183 : decode cX12_setsAside 183 = .ok (.iload_n 2, 1) := by decide +kernel
theorem dX12_setsAside_184 : decode cX12_setsAside 184 = .ok (.iadd, 1) := by decide +kernel
theorem dX12_setsAside_185 : decode cX12_setsAside 185 = .ok (.aload_n 0, 1) := by decide +kernel
theorem dX12_setsAside_186 : decode cX12_setsAside 186 = .ok (.getfield 49, 3) := by decide +kernel
theorem dX12_setsAside_189 : decode cX12_setsAside 189 = .ok (.iload_n 2, 1) := by decide +kernel
theorem dX12_setsAside_190 : decode cX12_setsAside 190 = .ok (.iaload, 1) := by decide +kernel
theorem dX12_setsAside_191 : decode cX12_setsAside 191 = .ok (.iastore, 1) := by decide +kernel
theorem dX12_setsAside_192 : decode cX12_setsAside 192 = .ok (.aload_n 0, 1) := by decide +kernel
theorem dX12_setsAside_193 : decode cX12_setsAside 193 = .ok (.getfield 142, 3) := by decide +kernel
theorem dX12_setsAside_196 : decode cX12_setsAside 196 = .ok (.bipush 16, 2) := by decide +kernel
theorem dX12_setsAside_198 : decode cX12_setsAside 198 = .ok (.iload_n 1, 1) := by decide +kernel
theorem dX12_setsAside_199 : decode cX12_setsAside 199 = .ok (.imul, 1) := by decide +kernel
theorem dX12_setsAside_200 : decode cX12_setsAside 200 = .ok (.iload_n 2, 1) := by decide +kernel
theorem dX12_setsAside_201 : decode cX12_setsAside 201 = .ok (.iadd, 1) := by decide +kernel
theorem dX12_setsAside_202 : decode cX12_setsAside 202 = .ok (.aload_n 0, 1) := by decide +kernel
theorem dX12_setsAside_203 : decode cX12_setsAside 203 = .ok (.getfield 52, 3) := by decide +kernel
theorem dX12_setsAside_206 : decode cX12_setsAside 206 = .ok (.iload_n 2, 1) := by decide +kernel
theorem dX12_setsAside_207 : decode cX12_setsAside 207 = .ok (.iaload, 1) := by decide +kernel
theorem dX12_setsAside_208 : decode cX12_setsAside 208 = .ok (.iastore, 1) := by decide +kernel
theorem dX12_setsAside_209 : decode cX12_setsAside 209 = .ok (.iinc 2 1, 3) := by decide +kernel
theorem dX12_setsAside_212 : decode cX12_setsAside 212 = .ok (.goto (-77), 3) := by decide +kernel
theorem dX12_setsAside_215 : decode cX12_setsAside 215 = .ok (.iconst 0, 1) := by decide +kernel
theorem dX12_setsAside_216 : decode cX12_setsAside 216 = .ok (.istore_n 2, 1) := by decide +kernel
theorem dX12_setsAside_217 : decode cX12_setsAside 217 = .ok (.iload_n 2, 1) := by decide +kernel
theorem dX12_setsAside_218 : decode cX12_setsAside 218 = .ok (.bipush 80, 2) := by decide +kernel
theorem dX12_setsAside_220 : decode cX12_setsAside 220 = .ok (.if_icmp .ge 26, 3) := by decide +kernel
theorem dX12_setsAside_223 : decode cX12_setsAside 223 = .ok (.aload_n 0, 1) := by decide +kernel
theorem dX12_setsAside_224 : decode cX12_setsAside 224 = .ok (.getfield 145, 3) := by decide +kernel
theorem dX12_setsAside_227 : decode cX12_setsAside 227 = .ok (.bipush 80, 2) := by decide +kernel
theorem dX12_setsAside_229 : decode cX12_setsAside 229 = .ok (.iload_n 1, 1) := by decide +kernel
theorem dX12_setsAside_230 : decode cX12_setsAside 230 = .ok (.imul, 1) := by decide +kernel
theorem dX12_setsAside_231 : decode cX12_setsAside 231 = .ok (.iload_n 2, 1) := by decide +kernel
theorem dX12_setsAside_232 : decode cX12_setsAside 232 = .ok (.iadd, 1) := by decide +kernel
theorem dX12_setsAside_233 : decode cX12_setsAside 233 = .ok (.aload_n 0, 1) := by decide +kernel
theorem dX12_setsAside_234 : decode cX12_setsAside 234 = .ok (.getfield 55, 3) := by decide +kernel
theorem dX12_setsAside_237 : decode cX12_setsAside 237 = .ok (.iload_n 2, 1) := by decide +kernel
theorem dX12_setsAside_238 : decode cX12_setsAside 238 = .ok (.iaload, 1) := by decide +kernel
theorem dX12_setsAside_239 : decode cX12_setsAside 239 = .ok (.iastore, 1) := by decide +kernel
theorem dX12_setsAside_240 : decode cX12_setsAside 240 = .ok (.iinc 2 1, 3) := by decide +kernel
theorem dX12_setsAside_243 : decode cX12_setsAside 243 = .ok (.goto (-26), 3) := by decide +kernel
theorem dX12_setsAside_246 : decode cX12_setsAside 246 = .ok (.iconst 0, 1) := by decide +kernel
theorem dX12_setsAside_247 : decode cX12_setsAside 247 = .ok (.istore_n 2, 1) := by decide +kernel
theorem dX12_setsAside_248 : decode cX12_setsAside 248 = .ok (.iload_n 2, 1) := by decide +kernel
theorem dX12_setsAside_249 : decode cX12_setsAside 249 = .ok (.iconst 5, 1) := by decide +kernel
theorem dX12_setsAside_250 : decode cX12_setsAside 250 = .ok (.if_icmp .ge 25, 3) := by decide +kernel
theorem dX12_setsAside_253 : decode cX12_setsAside 253 = .ok (.aload_n 0, 1) := by decide +kernel
theorem dX12_setsAside_254 : decode cX12_setsAside 254 = .ok (.getfield 148, 3) := by decide +kernel
theorem dX12_setsAside_257 : decode cX12_setsAside 257 = .ok (.iconst 5, 1) := by decide +kernel
theorem dX12_setsAside_258 : decode cX12_setsAside 258 = .ok (.iload_n 1, 1) := by decide +kernel
theorem dX12_setsAside_259 : decode cX12_setsAside 259 = .ok (.imul, 1) := by decide +kernel
theorem dX12_setsAside_260 : decode cX12_setsAside 260 = .ok (.iload_n 2, 1) := by decide +kernel
theorem dX12_setsAside_261 : decode cX12_setsAside 261 = .ok (.iadd, 1) := by decide +kernel
theorem dX12_setsAside_262 : decode cX12_setsAside 262 = .ok (.aload_n 0, 1) := by decide +kernel
theorem dX12_setsAside_263 : decode cX12_setsAside 263 = .ok (.getfield 58, 3) := by decide +kernel
theorem dX12_setsAside_266 : decode cX12_setsAside 266 = .ok (.iload_n 2, 1) := by decide +kernel
theorem dX12_setsAside_267 : decode cX12_setsAside 267 = .ok (.iaload, 1) := by decide +kernel
theorem dX12_setsAside_268 : decode cX12_setsAside 268 = .ok (.iastore, 1) := by decide +kernel
theorem dX12_setsAside_269 : decode cX12_setsAside 269 = .ok (.iinc 2 1, 3) := by decide +kernel
