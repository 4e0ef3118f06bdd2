theorem dX4_piece_65 : decode cX4_piece 65 = .ok (.goto 4, 3) := by decide +kernel
theorem dX4_piece_68 : decode cX4_piece 68 = .ok (.iconst 0, 1) := by decide +kernel
theorem dX4_piece_69 : decode cX4_piece 69 = .ok (.ireturn, 1) := by decide +kernel
theorem dX4_piece_70 : decode cX4_piece 70 = .ok (.aload_n 0, 1) := by decide +kernel
theorem dX4_piece_71 : decode cX4_piece 71 = .ok (.iload_n 1, 1) := by decide +kernel
theorem dX4_piece_72 : decode cX4_piece 72 = .ok (.iconst 1, 1) := by decide +kernel
theorem dX4_piece_73 : decode cX4_piece 73 = .ok (.iadd, 1) := by decide +kernel
theorem dX4_piece_74 : decode cX4_piece 74 = .ok (.invokevirtual 74, 3) := by decide +kernel
theorem dX4_piece_77 : decode cX4_piece 77 = .ok (.istore_n 3, 1) := by decide +kernel
theorem dX4_piece_78 : decode cX4_piece 78 = .ok (.aload_n 0, 1) := by decide +kernel
theorem dX4_piece_79 : decode cX4_piece 79 = .ok (.getfield 15, 3) := by decide +kernel
theorem dX4_piece_82 : decode cX4_piece 82 = .ok (.bipush 33, 2) := by decide +kernel
theorem dX4_piece_84 : decode cX4_piece 84 = .ok (.iconst 0, 1) := by decide +kernel
theorem dX4_piece_85 : decode cX4_piece 85 = .ok (.invokevirtual 81, 3) := by decide +kernel
theorem dX4_piece_88 : decode cX4_piece 88 = .ok (.iload_n 3, 1) := by decide +kernel
theorem dX4_piece_89 : decode cX4_piece 89 = .ok (.ireturn, 1) := by decide +kernel
theorem dX4_piece_90 : decode cX4_piece 90 = .ok (.aload_n 0, 1) := by decide +kernel
theorem dX4_piece_91 : decode cX4_piece 91 = .ok (.iload_n 1, 1) := by decide +kernel
theorem dX4_piece_92 : decode cX4_piece 92 = .ok (.invokevirtual 64, 3) := by decide +kernel
theorem dX4_piece_95 : decode cX4_piece 95 = .ok (.ifCond .ne 5, 3) := by decide +kernel
theorem dX4_piece_98 : decode cX4_piece 98 = .ok (.iconst 0, 1) := by decide +kernel
theorem dX4_piece_99 : decode cX4_piece 99 = .ok (.ireturn, 1) := by decide +kernel
theorem dX4_piece_100 : decode cX4_piece 100 = .ok (.aload_n 0, 1) := by decide +kernel
theorem dX4_piece_101 : decode cX4_piece 101 = .ok (.invokevirtual 47, 3) := by decide +kernel
theorem dX4_piece_104 : decode cX4_piece 104 = .ok (.istore_n 3, 1) := by decide +kernel
theorem dX4_piece_105 : decode cX4_piece 105 = .ok (.iload_n 3, 1) := by decide +kernel
theorem dX4_piece_106 : decode cX4_piece 106 = .ok (.bipush 60, 2) := by decide +kernel
theorem dX4_piece_108 : decode cX4_piece 108 = .ok (.if_icmp .eq 21, 3) := by decide +kernel
theorem dX4_piece_111 : decode cX4_piece 111 = .ok (.iload_n 3, 1) := by decide +kernel
theorem dX4_piece_112 : decode cX4_piece 112 = .ok (.bipush 62, 2) := by decide +kernel
theorem dX4_piece_114 : decode cX4_piece 114 = .ok (.if_icmp .eq 15, 3) := by decide +kernel
theorem dX4_piece_117 : decode cX4_piece 117 = .ok (.iload_n 3, 1) := by decide +kernel
theorem dX4_piece_118 : decode cX4_piece 118 = .ok (.bipush 61, 2) := by decide +kernel
theorem dX4_piece_120 : decode cX4_piece 120 = .ok (.if_icmp .eq 9, 3) := by decide +kernel
theorem dX4_piece_123 : decode cX4_piece 123 = .ok (.aload_n 0, 1) := by decide +kernel
theorem dX4_piece_124 : decode cX4_piece 124 = .ok (.iconst 1, 1) := by decide +kernel
theorem dX4_piece_125 : decode cX4_piece 125 = .ok (.invokevirtual 51, 3) := by decide +kernel
theorem dX4_piece_128 : decode cX4_piece 128 = .ok (.ireturn, 1) := by decide +kernel
theorem dX4_piece_129 : decode cX4_piece 129 = .ok (.aload_n 0, 1) := by decide +kernel
theorem dX4_piece_130 : decode cX4_piece 130 = .ok (.dup, 1) := by decide +kernel
theorem dX4_piece_131 : decode cX4_piece 131 = .ok (.getfield 28, 3) := by decide +kernel
theorem dX4_piece_134 : decode cX4_piece 134 = .ok (.iconst 1, 1) := by decide +kernel
theorem dX4_piece_135 : decode cX4_piece 135 = .ok (.iadd, 1) := by decide +kernel
theorem dX4_piece_136 : decode cX4_piece 136 = .ok (.putfield 28, 3) := by decide +kernel
theorem dX4_piece_139 : decode cX4_piece 139 = .ok (.aload_n 0, 1) := by decide +kernel
theorem dX4_piece_140 : decode cX4_piece 140 = .ok (.iload_n 1, 1) := by decide +kernel
theorem dX4_piece_141 : decode cX4_piece 141 = .ok (.invokevirtual 64, 3) := by decide +kernel
theorem dX4_piece_144 : decode cX4_piece 144 = .ok (.istore 4, 2) := by decide +kernel
theorem dX4_piece_146 : decode cX4_piece 146 = .ok (.aload_n 0, 1) := by decide +kernel
theorem dX4_piece_147 : decode cX4_piece 147 = .ok (.getfield 15, 3) := by decide +kernel
theorem dX4_piece_150 : decode cX4_piece 150 = .ok (.iload_n 3, 1) := by decide +kernel
theorem dX4_piece_151 : decode cX4_piece 151 = .ok (.iconst 0, 1) := by decide +kernel
theorem dX4_piece_152 : decode cX4_piece 152 = .ok (.invokevirtual 81, 3) := by decide +kernel
theorem dX4_piece_155 : decode cX4_piece 155 = .ok (.iload 4, 2) := by decide +kernel
theorem dX4_piece_157 : decode cX4_piece 157 = .ok (.ireturn, 1) := by decide +kernel
theorem dX4_expression_0 : decode cX4_expression 0 = .ok (.iconst 0, 1) := by decide +kernel
theorem dX4_expression_1 : decode cX4_expression 1 = .ok (.istore_n 2, 1) := by decide +kernel
theorem dX4_expression_2 : decode cX4_expression 2 = .ok (.iconst 0, 1) := by decide +kernel
theorem dX4_expression_3 : decode cX4_expression 3 = .ok (.istore_n 3, 1) := by decide +kernel
theorem dX4_expression_4 : decode cX4_expression 4 = .ok (.iconst 0, 1) := by decide +kernel
theorem dX4_expression_5 : decode cX4_expression 5 = .ok (.istore 4, 2) := by decide +kernel
theorem dX4_expression_7 : decode cX4_expression 7 = .ok (.iload 4, 2) := by decide +kernel
theorem dX4_expression_9 : decode cX4_expression 9 = .ok (.sipush 200, 3) := by decide +kernel
theorem dX4_expression_12 : decode cX4_expression 12 = .ok (.if_icmp .ge 123, 3) := by decide +kernel
theorem dX4_expression_15 : decode cX4_expression 15 = .ok (.aload_n 0, 1) := by decide +kernel
theorem dX4_expression_16 : decode cX4_expression 16 = .ok (.iload_n 1, 1) := by decide +kernel
theorem dX4_expression_17 : decode cX4_expression 17 = .ok (.invokevirtual 84, 3) := by decide +kernel
theorem dX4_expression_20 : decode cX4_expression 20 = .ok (.ifCond .eq 115, 3) := by decide +kernel
theorem dX4_expression_23 : decode cX4_expression 23 = .ok (.iload_n 3, 1) := by decide +kernel
theorem dX4_expression_24 : decode cX4_expression 24 = .ok (.ifCond .eq 12, 3) := by decide +kernel
theorem dX4_expression_27 : decode cX4_expression 27 = .ok (.aload_n 0, 1) := by decide +kernel
theorem dX4_expression_28 : decode cX4_expression 28 = .ok (.getfield 15, 3) := by decide +kernel
theorem dX4_expression_31 : decode cX4_expression 31 = .ok (.iload_n 3, 1) := by decide +kernel
theorem dX4_expression_32 : decode cX4_expression 32 = .ok (.iconst 0, 1) := by decide +kernel
theorem dX4_expression_33 : decode cX4_expression 33 = .ok (.invokevirtual 81, 3) := by decide +kernel
theorem dX4_expression_36 : decode cX4_expression 36 = .ok (.aload_n 0, 1) := by decide +kernel
theorem dX4_expression_37 : decode cX4_expression 37 = .ok (.invokevirtual 47, 3) := by decide +kernel
theorem dX4_expression_40 : decode cX4_expression 40 = .ok (.istore 5, 2) := by decide +kernel
theorem dX4_expression_42 : decode cX4_expression 42 = .ok (.iload 5, 2) := by decide +kernel
theorem dX4_expression_44 : decode cX4_expression 44 = .ok (.bipush 42, 2) := by decide +kernel
theorem dX4_expression_46 : decode cX4_expression 46 = .ok (.if_icmp .eq 17, 3) := by decide +kernel
theorem dX4_expression_49 : decode cX4_expression 49 = .ok (.iload 5, 2) := by decide +kernel
theorem dX4_expression_51 : decode cX4_expression 51 = .ok (.bipush 47, 2) := by decide +kernel
theorem dX4_expression_53 : decode cX4_expression 53 = .ok (.if_icmp .eq 10, 3) := by decide +kernel
theorem dX4_expression_56 : decode cX4_expression 56 = .ok (.iload 5, 2) := by decide +kernel
theorem dX4_expression_58 : decode cX4_expression 58 = .ok (.bipush 37, 2) := by decide +kernel
theorem dX4_expression_60 : decode cX4_expression 60 = .ok (.if_icmp .ne 7, 3) := by decide +kernel
theorem dX4_expression_63 : decode cX4_expression 63 = .ok (.iconst 1, 1) := by decide +kernel
theorem dX4_expression_64 : decode cX4_expression 64 = .ok (.goto 4, 3) := by decide +kernel
theorem dX4_expression_67 : decode cX4_expression 67 = .ok (.iconst 0, 1) := by decide +kernel
theorem dX4_expression_68 : decode cX4_expression 68 = .ok (.istore 6, 2) := by decide +kernel
theorem dX4_expression_70 : decode cX4_expression 70 = .ok (.iload 6, 2) := by decide +kernel
theorem dX4_expression_72 : decode cX4_expression 72 = .ok (.ifCond .eq 8, 3) := by decide +kernel
theorem dX4_expression_75 : decode cX4_expression 75 = .ok (.iload 5, 2) := by decide +kernel
theorem dX4_expression_77 : decode cX4_expression 77 = .ok (.goto 4, 3) := by decide +kernel
theorem dX4_expression_80 : decode cX4_expression 80 = .ok (.iconst 0, 1) := by decide +kernel
theorem dX4_expression_81 : decode cX4_expression 81 = .ok (.istore_n 3, 1) := by decide +kernel
theorem dX4_expression_82 : decode cX4_expression 82 = .ok (.iload 6, 2) := by decide +kernel
theorem dX4_expression_84 : decode cX4_expression 84 = .ok (.ifCond .ne 35, 3) := by decide +kernel
theorem dX4_expression_87 : decode cX4_expression 87 = .ok (.iload_n 2, 1) := by decide +kernel
theorem dX4_expression_88 : decode cX4_expression 88 = .ok (.ifCond .eq 12, 3) := by decide +kernel
theorem dX4_expression_91 : decode cX4_expression 91 = .ok (.aload_n 0, 1) := by decide +kernel
theorem dX4_expression_92 : decode cX4_expression 92 = .ok (.getfield 15, 3) := by decide +kernel
theorem dX4_expression_95 : decode cX4_expression 95 = .ok (.iload_n 2, 1) := by decide +kernel
theorem dX4_expression_96 : decode cX4_expression 96 = .ok (.iconst 0, 1) := by decide +kernel
theorem dX4_expression_97 : decode cX4_expression 97 = .ok (.invokevirtual 81, 3) := by decide +kernel
theorem dX4_expression_100 : decode cX4_expression 100 = .ok (.iload 5, 2) := by decide +kernel
theorem dX4_expression_102 : decode cX4_expression 102 = .ok (.bipush 43, 2) := by decide +kernel
theorem dX4_expression_104 : decode cX4_expression 104 = .ok (.if_icmp .eq 12, 3) := by decide +kernel
theorem dX4_expression_107 : decode cX4_expression 107 = .ok (.iload 5, 2) := by decide +kernel
theorem dX4_expression_109 : decode cX4_expression 109 = .ok (.bipush 45, 2) := by decide +kernel
theorem dX4_expression_111 : decode cX4_expression 111 = .ok (.if_icmp .eq 5, 3) := by decide +kernel
theorem dX4_expression_114 : decode cX4_expression 114 = .ok (.iconst 1, 1) := by decide +kernel
theorem dX4_expression_115 : decode cX4_expression 115 = .ok (.ireturn, 1) := by decide +kernel
theorem dX4_expression_116 : decode cX4_expression 116 = .ok (.iload 5, 2) := by decide +kernel
theorem dX4_expression_118 : decode cX4_expression 118 = .ok (.istore_n 2, 1) := by decide +kernel
theorem dX4_expression_119 : decode cX4_expression 119 = .ok (.aload_n 0, 1) := by decide +kernel
theorem dX4_expression_120 : decode cX4_expression 120 = .ok (.dup, 1) := by decide +kernel
theorem dX4_expression_121 : decode cX4_expression 121 = .ok (.getfield 28, 3) := by decide +kernel
theorem dX4_expression_124 : decode cX4_expression 124 = .ok (.iconst 1, 1) := by decide +kernel
theorem dX4_expression_125 : decode cX4_expression 125 = .ok (.iadd, 1) := by decide +kernel
theorem dX4_expression_126 : decode cX4_expression 126 = .ok (.putfield 28, 3) := by decide +kernel
theorem dX4_expression_129 : decode cX4_expression 129 = .ok (.iinc 4 1, 3) := by decide +kernel
theorem dX4_expression_132 : decode cX4_expression 132 = .ok (.goto (-125), 3) := by decide +kernel
theorem dX4_expression_135 : decode cX4_expression 135 = .ok (.iconst 0, 1) := by decide +kernel
theorem dX4_expression_136 : decode cX4_expression 136 = .ok (.ireturn, 1) := by decide +kernel
theorem dX4_factor_0 : decode cX4_factor 0 = .ok (.aload_n 0, 1) := by decide +kernel
theorem dX4_factor_1 : decode cX4_factor 1 = .ok (.invokevirtual 47, 3) := by decide +kernel
theorem dX4_factor_4 : decode cX4_factor 4 = .ok (.istore_n 2, 1) := by decide +kernel
theorem dX4_factor_5 : decode cX4_factor 5 = .ok (.iload_n 2, 1) := by decide +kernel
theorem dX4_factor_6 : decode cX4_factor 6 = .ok (.bipush 91, 2) := by decide +kernel
theorem dX4_factor_8 : decode cX4_factor 8 = .ok (.if_icmp .ne 50, 3) := by decide +kernel
theorem dX4_factor_11 : decode cX4_factor 11 = .ok (.iload_n 1, 1) := by decide +kernel
theorem dX4_factor_12 : decode cX4_factor 12 = .ok (.bipush 6, 2) := by decide +kernel
theorem dX4_factor_14 : decode cX4_factor 14 = .ok (.if_icmp .lt 9, 3) := by decide +kernel
theorem dX4_factor_17 : decode cX4_factor 17 = .ok (.aload_n 0, 1) := by decide +kernel
theorem dX4_factor_18 : decode cX4_factor 18 = .ok (.iconst 5, 1) := by decide +kernel
theorem dX4_factor_19 : decode cX4_factor 19 = .ok (.invokevirtual 51, 3) := by decide +kernel
theorem dX4_factor_22 : decode cX4_factor 22 = .ok (.ireturn, 1) := by decide +kernel
theorem dX4_factor_23 : decode cX4_factor 23 = .ok (.aload_n 0, 1) := by decide +kernel
theorem dX4_factor_24 : decode cX4_factor 24 = .ok (.dup, 1) := by decide +kernel
theorem dX4_factor_25 : decode cX4_factor 25 = .ok (.getfield 28, 3) := by decide +kernel
theorem dX4_factor_28 : decode cX4_factor 28 = .ok (.iconst 1, 1) := by decide +kernel
theorem dX4_factor_29 : decode cX4_factor 29 = .ok (.iadd, 1) := by decide +kernel
theorem dX4_factor_30 : decode cX4_factor 30 = .ok (.putfield 28, 3) := by decide +kernel
theorem dX4_factor_33 : decode cX4_factor 33 = .ok (.aload_n 0, 1) := by decide +kernel
theorem dX4_factor_34 : decode cX4_factor 34 = .ok (.iload_n 1, 1) := by decide +kernel
theorem dX4_factor_35 : decode cX4_factor 35 = .ok (.iconst 1, 1) := by decide +kernel
theorem dX4_factor_36 : decode cX4_factor 36 = .ok (.iadd, 1) := by decide +kernel
theorem dX4_factor_37 : decode cX4_factor 37 = .ok (.invokevirtual 64, 3) := by decide +kernel
theorem dX4_factor_40 : decode cX4_factor 40 = .ok (.ifCond .eq 16, 3) := by decide +kernel
theorem dX4_factor_43 : decode cX4_factor 43 = .ok (.aload_n 0, 1) := by decide +kernel
theorem dX4_factor_44 : decode cX4_factor 44 = .ok (.bipush 93, 2) := by decide +kernel
theorem dX4_factor_46 : decode cX4_factor 46 = .ok (.invokevirtual 58, 3) := by decide +kernel
theorem dX4_factor_49 : decode cX4_factor 49 = .ok (.ifCond .eq 7, 3) := by decide +kernel
theorem dX4_factor_52 : decode cX4_factor 52 = .ok (.iconst 1, 1) := by decide +kernel
theorem dX4_factor_53 : decode cX4_factor 53 = .ok (.goto 4, 3) := by decide +kernel
theorem dX4_factor_56 : decode cX4_factor 56 = .ok (.iconst 0, 1) := by decide +kernel
theorem dX4_factor_57 : decode cX4_factor 57 = .ok (.ireturn, 1) := by decide +kernel
theorem dX4_factor_58 : decode cX4_factor 58 = .ok (.iload_n 2, 1) := by decide +kernel
theorem dX4_factor_59 : decode cX4_factor 59 = .ok (.invokestatic 87, 3) := by decide +kernel
theorem dX4_factor_62 : decode cX4_factor 62 = .ok (.ifCond .eq 8, 3) := by decide +kernel
theorem dX4_factor_65 : decode cX4_factor 65 = .ok (.aload_n 0, 1) := by decide +kernel
theorem dX4_factor_66 : decode cX4_factor 66 = .ok (.invokevirtual 90, 3) := by decide +kernel
theorem dX4_factor_69 : decode cX4_factor 69 = .ok (.ireturn, 1) := by decide +kernel
theorem dX4_factor_70 : decode cX4_factor 70 = .ok (.iload_n 2, 1) := by decide +kernel
theorem dX4_factor_71 : decode cX4_factor 71 = .ok (.iconst (-1), 1) := by decide +kernel
theorem dX4_factor_72 : decode cX4_factor 72 = .ok (.if_icmp .ne 7, 3) := by decide +kernel
theorem dX4_factor_75 : decode cX4_factor 75 = .ok (.iconst (-1), 1) := by decide +kernel
theorem dX4_factor_76 : decode cX4_factor 76 = .ok (.goto 10, 3) := by decide +kernel
theorem dX4_factor_79 : decode cX4_factor 79 = .ok (.ldc 93, 2) := by decide +kernel
theorem dX4_factor_81 : decode cX4_factor 81 = .ok (.iload_n 2, 1) := by decide +kernel
theorem dX4_factor_82 : decode cX4_factor 82 = .ok (.i2c, 1) := by decide +kernel
theorem dX4_factor_83 : decode cX4_factor 83 = .ok (.invokevirtual 95, 3) := by decide +kernel
theorem dX4_factor_86 : decode cX4_factor 86 = .ok (.istore_n 3, 1) := by decide +kernel
theorem dX4_factor_87 : decode cX4_factor 87 = .ok (.iload_n 3, 1) := by decide +kernel
theorem dX4_factor_88 : decode cX4_factor 88 = .ok (.ifCond .ge 9, 3) := by decide +kernel
theorem dX4_factor_91 : decode cX4_factor 91 = .ok (.aload_n 0, 1) := by decide +kernel
theorem dX4_factor_92 : decode cX4_factor 92 = .ok (.iconst 1, 1) := by decide +kernel
theorem dX4_factor_93 : decode cX4_factor 93 = .ok (.invokevirtual 51, 3) := by decide +kernel
theorem dX4_factor_96 : decode cX4_factor 96 = .ok (.ireturn, 1) := by decide +kernel
theorem dX4_factor_97 : decode cX4_factor 97 = .ok (.aload_n 0, 1) := by decide +kernel
theorem dX4_factor_98 : decode cX4_factor 98 = .ok (.dup, 1) := by decide +kernel
theorem dX4_factor_99 : decode cX4_factor 99 = .ok (.getfield 28, 3) := by decide +kernel
theorem dX4_factor_102 : decode cX4_factor 102 = .ok (.iconst 1, 1) := by decide +kernel
theorem dX4_factor_103 : decode cX4_factor 103 = .ok (.iadd, 1) := by decide +kernel
theorem dX4_factor_104 : decode cX4_factor 104 = .ok (.putfield 28, 3) := by decide +kernel
theorem dX4_factor_107 : decode cX4_factor 107 = .ok (.aload_n 0, 1) := by decide +kernel
theorem dX4_factor_108 : decode cX4_factor 108 = .ok (.getfield 15, 3) := by decide +kernel
theorem dX4_factor_111 : decode cX4_factor 111 = .ok (.iconst 2, 1) := by decide +kernel
theorem dX4_factor_112 : decode cX4_factor 112 = .ok (.iload_n 3, 1) := by decide +kernel
theorem dX4_factor_113 : decode cX4_factor 113 = .ok (.invokevirtual 81, 3) := by decide +kernel
theorem dX4_factor_116 : decode cX4_factor 116 = .ok (.iconst 1, 1) := by decide +kernel
theorem dX4_factor_117 : decode cX4_factor 117 = .ok (.ireturn, 1) := by decide +kernel
theorem dX4_number_0 : decode cX4_number 0 = .ok (.iconst 0, 1) := by decide +kernel
theorem dX4_number_1 : decode cX4_number 1 = .ok (.istore_n 1, 1) := by decide +kernel
theorem dX4_number_2 : decode cX4_number 2 = .ok (.iconst 0, 1) := by decide +kernel
theorem dX4_number_3 : decode cX4_number 3 = .ok (.istore_n 2, 1) := by decide +kernel
theorem dX4_number_4 : decode cX4_number 4 = .ok (.iload_n 2, 1) := by decide +kernel
theorem dX4_number_5 : decode cX4_number 5 = .ok (.iconst 5, 1) := by decide +kernel
theorem dX4_number_6 : decode cX4_number 6 = .ok (.if_icmp .gt 53, 3) := by decide +kernel
theorem dX4_number_9 : decode cX4_number 9 = .ok (.aload_n 0, 1) := by decide +kernel
theorem dX4_number_10 : decode cX4_number 10 = .ok (.invokevirtual 47, 3) := by decide +kernel
theorem dX4_number_13 : decode cX4_number 13 = .ok (.invokestatic 87, 3) := by decide +kernel
theorem dX4_number_16 : decode cX4_number 16 = .ok (.ifCond .eq 43, 3) := by decide +kernel
theorem dX4_number_19 : decode cX4_number 19 = .ok (.iload_n 2, 1) := by decide +kernel
theorem dX4_number_20 : decode cX4_number 20 = .ok (.iconst 5, 1) := by decide +kernel
theorem dX4_number_21 : decode cX4_number 21 = .ok (.if_icmp .ne 9, 3) := by decide +kernel
theorem dX4_number_24 : decode cX4_number 24 = .ok (.aload_n 0, 1) := by decide +kernel
theorem dX4_number_25 : decode cX4_number 25 = .ok (.iconst 2, 1) := by decide +kernel
theorem dX4_number_26 : decode cX4_number 26 = .ok (.invokevirtual 51, 3) := by decide +kernel
theorem dX4_number_29 : decode cX4_number 29 = .ok (.ireturn, 1) := by decide +kernel
theorem dX4_number_30 : decode cX4_number 30 = .ok (.bipush 10, 2) := by decide +kernel
theorem dX4_number_32 : decode cX4_number 32 = .ok (.iload_n 1, 1) := by decide +kernel
theorem dX4_number_33 : decode cX4_number 33 = .ok (.imul, 1) := by decide +kernel
theorem dX4_number_34 : decode cX4_number 34 = .ok (.aload_n 0, 1) := by decide +kernel
theorem dX4_number_35 : decode cX4_number 35 = .ok (.invokevirtual 47, 3) := by decide +kernel
theorem dX4_number_38 : decode cX4_number 38 = .ok (.iadd, 1) := by decide +kernel
theorem dX4_number_39 : decode cX4_number 39 = .ok (.bipush 48, 2) := by decide +kernel
theorem dX4_number_41 : decode cX4_number 41 = .ok (.isub, 1) := by decide +kernel
theorem dX4_number_42 : decode cX4_number 42 = .ok (.istore_n 1, 1) := by decide +kernel
theorem dX4_number_43 : decode cX4_number 43 = .ok (.aload_n 0, 1) := by decide +kernel
theorem dX4_number_44 : decode cX4_number 44 = .ok (.dup, 1) := by decide +kernel
theorem dX4_number_45 : decode cX4_number 45 = .ok (.getfield 28, 3) := by decide +kernel
theorem dX4_number_48 : decode cX4_number 48 = .ok (.iconst 1, 1) := by decide +kernel
theorem dX4_number_49 : decode cX4_number 49 = .ok (.iadd, 1) := by decide +kernel
theorem dX4_number_50 : decode cX4_number 50 = .ok (.putfield 28, 3) := by decide +kernel
theorem dX4_number_53 : decode cX4_number 53 = .ok (.iinc 2 1, 3) := by decide +kernel
theorem dX4_number_56 : decode cX4_number 56 = .ok (.goto (-52), 3) := by decide +kernel
theorem dX4_number_59 : decode cX4_number 59 = .ok (.aload_n 0, 1) := by decide +kernel
theorem dX4_number_60 : decode cX4_number 60 = .ok (.getfield 15, 3) := by decide +kernel
theorem dX4_number_63 : decode cX4_number 63 = .ok (.iconst 1, 1) := by decide +kernel
theorem dX4_number_64 : decode cX4_number 64 = .ok (.iload_n 1, 1) := by decide +kernel
theorem dX4_number_65 : decode cX4_number 65 = .ok (.invokevirtual 81, 3) := by decide +kernel
theorem dX4_number_68 : decode cX4_number 68 = .ok (.iconst 1, 1) := by decide +kernel
theorem dX4_number_69 : decode cX4_number 69 = .ok (.ireturn, 1) := by decide +kernel
theorem dX4_isDigit_0 : decode cX4_isDigit 0 = .ok (.iload_n 0, 1) := by decide +kernel
theorem dX4_isDigit_1 : decode cX4_isDigit 1 = .ok (.bipush 48, 2) := by decide +kernel
theorem dX4_isDigit_3 : decode cX4_isDigit 3 = .ok (.if_icmp .lt 13, 3) := by decide +kernel
theorem dX4_isDigit_6 : decode cX4_isDigit 6 = .ok (.iload_n 0, 1) := by decide +kernel
theorem dX4_isDigit_7 : decode cX4_isDigit 7 = .ok (.bipush 57, 2) := by decide +kernel
theorem dX4_isDigit_9 : decode cX4_isDigit 9 = .ok (.if_icmp .gt 7, 3) := by decide +kernel
theorem dX4_isDigit_12 : decode cX4_isDigit 12 = .ok (.iconst 1, 1) := by decide +kernel
theorem dX4_isDigit_13 : decode cX4_isDigit 13 = .ok (.goto 4, 3) := by decide +kernel
theorem dX4_isDigit_16 : decode cX4_isDigit 16 = .ok (.iconst 0, 1) := by decide +kernel
theorem dX4_isDigit_17 : decode cX4_isDigit 17 = .ok (.ireturn, 1) := by decide +kernel
theorem dX5_init_0 : decode cX5_init 0 = .ok (.aload_n 0, 1) := by decide +kernel
theorem dX5_init_1 : decode cX5_init 1 = .ok (.invokespecial 3, 3) := by decide +kernel
theorem dX5_init_4 : decode cX5_init 4 = .ok (.aload_n 0, 1) := by decide +kernel
theorem dX5_init_5 : decode cX5_init 5 = .ok (.bipush 12, 2) := by decide +kernel
theorem dX5_init_7 : decode cX5_init 7 = .ok (.anewarray 9, 3) := by decide +kernel
theorem dX5_init_10 : decode cX5_init 10 = .ok (.putfield 11, 3) := by decide +kernel
theorem dX5_init_13 : decode cX5_init 13 = .ok (.aload_n 0, 1) := by decide +kernel
theorem dX5_init_14 : decode cX5_init 14 = .ok (.bipush 16, 2) := by decide +kernel
theorem dX5_init_16 : decode cX5_init 16 = .ok (.anewarray 17, 3) := by decide +kernel
theorem dX5_init_19 : decode cX5_init 19 = .ok (.putfield 19, 3) := by decide +kernel
theorem dX5_init_22 : decode cX5_init 22 = .ok (.aload_n 0, 1) := by decide +kernel
theorem dX5_init_23 : decode cX5_init 23 = .ok (.iconst 5, 1) := by decide +kernel
theorem dX5_init_24 : decode cX5_init 24 = .ok (.newarray .int, 2) := by decide +kernel
theorem dX5_init_26 : decode cX5_init 26 = .ok (.putfield 23, 3) := by decide +kernel
theorem dX5_init_29 : decode cX5_init 29 = .ok (.aload_n 0, 1) := by decide +kernel
theorem dX5_init_30 : decode cX5_init 30 = .ok (.bipush 16, 2) := by decide +kernel
theorem dX5_init_32 : decode cX5_init 32 = .ok (.newarray .int, 2) := by decide +kernel
theorem dX5_init_34 : decode cX5_init 34 = .ok (.putfield 27, 3) := by decide +kernel
theorem dX5_init_37 : decode cX5_init 37 = .ok (.aload_n 0, 1) := by decide +kernel
theorem dX5_init_38 : decode cX5_init 38 = .ok (.sipush 192, 3) := by decide +kernel
theorem dX5_init_41 : decode cX5_init 41 = .ok (.newarray .int, 2) := by decide +kernel
theorem dX5_init_43 : decode cX5_init 43 = .ok (.putfield 30, 3) := by decide +kernel
theorem dX5_init_46 : decode cX5_init 46 = .ok (.aload_n 0, 1) := by decide +kernel
theorem dX5_init_47 : decode cX5_init 47 = .ok (.sipush 192, 3) := by decide +kernel
theorem dX5_init_50 : decode cX5_init 50 = .ok (.newarray .int, 2) := by decide +kernel
theorem dX5_init_52 : decode cX5_init 52 = .ok (.putfield 33, 3) := by decide +kernel
theorem dX5_init_55 : decode cX5_init 55 = .ok (.aload_n 0, 1) := by decide +kernel
theorem dX5_init_56 : decode cX5_init 56 = .ok (.iconst (-1), 1) := by decide +kernel
theorem dX5_init_57 : decode cX5_init 57 = .ok (.putfield 36, 3) := by decide +kernel
theorem dX5_init_60 : decode cX5_init 60 = .ok (.aload_n 0, 1) := by decide +kernel
theorem dX5_init_61 : decode cX5_init 61 = .ok (.iconst (-1), 1) := by decide +kernel
theorem dX5_init_62 : decode cX5_init 62 = .ok (.putfield 40, 3) := by decide +kernel
theorem dX5_init_65 : decode cX5_init 65 = .ok (.aload_n 0, 1) := by decide +kernel
theorem dX5_init_66 : decode cX5_init 66 = .ok (.iconst 1, 1) := by decide +kernel
theorem dX5_init_67 : decode cX5_init 67 = .ok (.putfield 43, 3) := by decide +kernel
theorem dX5_init_70 : decode cX5_init 70 = .ok (.iconst 0, 1) := by decide +kernel
theorem dX5_init_71 : decode cX5_init 71 = .ok (.istore_n 1, 1) := by decide +kernel
theorem dX5_init_72 : decode cX5_init 72 = .ok (.iload_n 1, 1) := by decide +kernel
theorem dX5_init_73 : decode cX5_init 73 = .ok (.bipush 12, 2) := by decide +kernel
theorem dX5_init_75 : decode cX5_init 75 = .ok (.if_icmp .ge 22, 3) := by decide +kernel
theorem dX5_init_78 : decode cX5_init 78 = .ok (.aload_n 0, 1) := by decide +kernel
theorem dX5_init_79 : decode cX5_init 79 = .ok (.getfield 11, 3) := by decide +kernel
theorem dX5_init_82 : decode cX5_init 82 = .ok (.iload_n 1, 1) := by decide +kernel
theorem dX5_init_83 : decode cX5_init 83 = .ok (.new 9, 3) := by decide +kernel
theorem dX5_init_86 : decode cX5_init 86 = .ok (.dup, 1) := by decide +kernel
theorem dX5_init_87 : decode cX5_init 87 = .ok (.invokespecial 46, 3) := by decide +kernel
theorem dX5_init_90 : decode cX5_init 90 = .ok (.aastore, 1) := by decide +kernel
theorem dX5_init_91 : decode cX5_init 91 = .ok (.iinc 1 1, 3) := by decide +kernel
theorem dX5_init_94 : decode cX5_init 94 = .ok (.goto (-22), 3) := by decide +kernel
theorem dX5_init_97 : decode cX5_init 97 = .ok (.iconst 0, 1) := by decide +kernel
theorem dX5_init_98 : decode cX5_init 98 = .ok (.istore_n 1, 1) := by decide +kernel
theorem dX5_init_99 : decode cX5_init 99 = .ok (.iload_n 1, 1) := by decide +kernel
theorem dX5_init_100 : decode cX5_init 100 = .ok (.bipush 16, 2) := by decide +kernel
theorem dX5_init_102 : decode cX5_init 102 = .ok (.if_icmp .ge 22, 3) := by decide +kernel
theorem dX5_init_105 : decode cX5_init 105 = .ok (.aload_n 0, 1) := by decide +kernel
theorem dX5_init_106 : decode cX5_init 106 = .ok (.getfield 19, 3) := by decide +kernel
theorem dX5_init_109 : decode cX5_init 109 = .ok (.iload_n 1, 1) := by decide +kernel
theorem dX5_init_110 : decode cX5_init 110 = .ok (.new 17, 3) := by decide +kernel
theorem dX5_init_113 : decode cX5_init 113 = .ok (.dup, 1) := by decide +kernel
theorem dX5_init_114 : decode cX5_init 114 = .ok (.invokespecial 47, 3) := by decide +kernel
theorem dX5_init_117 : decode cX5_init 117 = .ok (.aastore, 1) := by decide +kernel
theorem dX5_init_118 : decode cX5_init 118 = .ok (.iinc 1 1, 3) := by decide +kernel
theorem dX5_init_121 : decode cX5_init 121 = .ok (.goto (-22), 3) := by decide +kernel
theorem dX5_init_124 : decode cX5_init 124 = .ok (.return_, 1) := by decide +kernel
theorem dX5_copyFrom_0 : decode cX5_copyFrom 0 = .ok (.aload_n 0, 1) := by decide +kernel
theorem dX5_copyFrom_1 : decode cX5_copyFrom 1 = .ok (.aload_n 1, 1) := by decide +kernel
theorem dX5_copyFrom_2 : decode cX5_copyFrom 2 = .ok (.getfield 48, 3) := by decide +kernel
theorem dX5_copyFrom_5 : decode cX5_copyFrom 5 = .ok (.putfield 48, 3) := by decide +kernel
theorem dX5_copyFrom_8 : decode cX5_copyFrom 8 = .ok (.aload_n 0, 1) := by decide +kernel
theorem dX5_copyFrom_9 : decode cX5_copyFrom 9 = .ok (.aload_n 1, 1) := by decide +kernel
theorem dX5_copyFrom_10 : decode cX5_copyFrom 10 = .ok (.getfield 51, 3) := by decide +kernel
theorem dX5_copyFrom_13 : decode cX5_copyFrom 13 = .ok (.putfield 51, 3) := by decide +kernel
theorem dX5_copyFrom_16 : decode cX5_copyFrom 16 = .ok (.aload_n 0, 1) := by decide +kernel
theorem dX5_copyFrom_17 : decode cX5_copyFrom 17 = .ok (.aload_n 1, 1) := by decide +kernel
theorem dX5_copyFrom_18 : decode cX5_copyFrom 18 = .ok (.getfield 36, 3) := by decide +kernel
theorem dX5_copyFrom_21 : decode cX5_copyFrom 21 = .ok (.putfield 36, 3) := by decide +kernel
theorem dX5_copyFrom_24 : decode cX5_copyFrom 24 = .ok (.aload_n 0, 1) := by decide +kernel
theorem dX5_copyFrom_25 : decode cX5_copyFrom 25 = .ok (.aload_n 1, 1) := by decide +kernel
theorem dX5_copyFrom_26 : decode cX5_copyFrom 26 = .ok (.getfield 40, 3) := by decide +kernel
theorem dX5_copyFrom_29 : decode cX5_copyFrom 29 = .ok (.putfield 40, 3) := by decide +kernel
theorem dX5_copyFrom_32 : decode cX5_copyFrom 32 = .ok (.aload_n 0, 1) := by decide +kernel
theorem dX5_copyFrom_33 : decode cX5_copyFrom 33 = .ok (.aload_n 1, 1) := by decide +kernel
theorem dX5_copyFrom_34 : decode cX5_copyFrom 34 = .ok (.getfield 54, 3) := by decide +kernel
theorem dX5_copyFrom_37 : decode cX5_copyFrom 37 = .ok (.putfield 54, 3) := by decide +kernel
theorem dX5_copyFrom_40 : decode cX5_copyFrom 40 = .ok (.aload_n 0, 1) := by decide +kernel
theorem dX5_copyFrom_41 : decode cX5_copyFrom 41 = .ok (.aload_n 1, 1) := by decide +kernel
theorem dX5_copyFrom_42 : decode cX5_copyFrom 42 = .ok (.getfield 43, 3) := by decide +kernel
theorem dX5_copyFrom_45 : decode cX5_copyFrom 45 = .ok (.putfield 43, 3) := by decide +kernel
theorem dX5_copyFrom_48 : decode cX5_copyFrom 48 = .ok (.iconst 0, 1) := by decide +kernel
theorem dX5_copyFrom_49 : decode cX5_copyFrom 49 = .ok (.istore_n 2, 1) := by decide +kernel
theorem dX5_copyFrom_50 : decode cX5_copyFrom 50 = .ok (.iload_n 2, 1) := by decide +kernel
theorem dX5_copyFrom_51 : decode cX5_copyFrom 51 = .ok (.aload_n 0, 1) := by decide +kernel
theorem dX5_copyFrom_52 : decode cX5_copyFrom 52 = .ok (.getfield 48, 3) := by decide +kernel
theorem dX5_copyFrom_55 : decode cX5_copyFrom 55 = .ok (.if_icmp .ge 24, 3) := by decide +kernel
theorem dX5_copyFrom_58 : decode cX5_copyFrom 58 = .ok (.aload_n 0, 1) := by decide +kernel
theorem dX5_copyFrom_59 : decode cX5_copyFrom 59 = .ok (.getfield 11, 3) := by decide +kernel
theorem dX5_copyFrom_62 : decode cX5_copyFrom 62 = .ok (.iload_n 2, 1) := by decide +kernel
theorem dX5_copyFrom_63 : decode cX5_copyFrom 63 = .ok (.aaload, 1) := by decide +kernel
theorem dX5_copyFrom_64 : decode cX5_copyFrom 64 = .ok (.aload_n 1, 1) := by decide +kernel
theorem dX5_copyFrom_65 : decode cX5_copyFrom 65 = .ok (.getfield 11, 3) := by decide +kernel
theorem dX5_copyFrom_68 : decode cX5_copyFrom 68 = .ok (.iload_n 2, 1) := by decide +kernel
theorem dX5_copyFrom_69 : decode cX5_copyFrom 69 = .ok (.aaload, 1) := by decide +kernel
theorem dX5_copyFrom_70 : decode cX5_copyFrom 70 = .ok (.invokevirtual 57, 3) := by decide +kernel
theorem dX5_copyFrom_73 : decode cX5_copyFrom 73 = .ok (.iinc 2 1, 3) := by decide +kernel
theorem dX5_copyFrom_76 : decode cX5_copyFrom 76 = .ok (.goto (-26), 3) := by decide +kernel
theorem dX5_copyFrom_79 : decode cX5_copyFrom 79 = .ok (.iconst 0, 1) := by decide +kernel
theorem dX5_copyFrom_80 : decode cX5_copyFrom 80 = .ok (.istore_n 2, 1) := by decide +kernel
theorem dX5_copyFrom_81 : decode cX5_copyFrom 81 = .ok (.iload_n 2, 1) := by decide +kernel
theorem dX5_copyFrom_82 : decode cX5_copyFrom 82 = .ok (.aload_n 0, 1) := by decide +kernel
theorem dX5_copyFrom_83 : decode cX5_copyFrom 83 = .ok (.getfield 51, 3) := by decide +kernel
theorem dX5_copyFrom_86 : decode cX5_copyFrom 86 = .ok (.if_icmp .ge 24, 3) := by decide +kernel
theorem dX5_copyFrom_89 : decode cX5_copyFrom 89 = .ok (.aload_n 0, 1) := by decide +kernel
theorem dX5_copyFrom_90 : decode cX5_copyFrom 90 = .ok (.getfield 19, 3) := by decide +kernel
theorem dX5_copyFrom_93 : decode cX5_copyFrom 93 = .ok (.iload_n 2, 1) := by decide +kernel
theorem dX5_copyFrom_94 : decode cX5_copyFrom 94 = .ok (.aaload, 1) := by decide +kernel
theorem dX5_copyFrom_95 : decode cX5_copyFrom 95 = .ok (.aload_n 1, 1) := by decide +kernel
theorem dX5_copyFrom_96 : decode cX5_copyFrom 96 = .ok (.getfield 19, 3) := by decide +kernel
theorem dX5_copyFrom_99 : decode cX5_copyFrom 99 = .ok (.iload_n 2, 1) := by decide +kernel
theorem dX5_copyFrom_100 : decode cX5_copyFrom 100 = .ok (.aaload, 1) := by decide +kernel
theorem dX5_copyFrom_101 : decode cX5_copyFrom 101 = .ok (.invokevirtual 61, 3) := by decide +kernel
theorem dX5_copyFrom_104 : decode cX5_copyFrom 104 = .ok (.iinc 2 1, 3) := by decide +kernel
theorem dX5_copyFrom_107 : decode cX5_copyFrom 107 = .ok (.goto (-26), 3) := by decide +kernel
theorem dX5_copyFrom_110 : decode cX5_copyFrom 110 = .ok (.iconst 0, 1) := by decide +kernel
theorem dX5_copyFrom_111 : decode cX5_copyFrom 111 = .ok (.istore_n 2, 1) := by decide +kernel
theorem dX5_copyFrom_112 : decode cX5_copyFrom 112 = .ok (.iload_n 2, 1) := by decide +kernel
theorem dX5_copyFrom_113 : decode cX5_copyFrom 113 = .ok (.iconst 5, 1) := by decide +kernel
theorem dX5_copyFrom_114 : decode cX5_copyFrom 114 = .ok (.if_icmp .ge 21, 3) := by decide +kernel
theorem dX5_copyFrom_117 : decode cX5_copyFrom 117 = .ok (.aload_n 0, 1) := by decide +kernel
theorem dX5_copyFrom_118 : decode cX5_copyFrom 118 = .ok (.getfield 23, 3) := by decide +kernel
theorem dX5_copyFrom_121 : decode cX5_copyFrom 121 = .ok (.iload_n 2, 1) := by decide +kernel
theorem dX5_copyFrom_122 : decode cX5_copyFrom 122 = .ok (.aload_n 1, 1) := by decide +kernel
theorem dX5_copyFrom_123 : decode cX5_copyFrom 123 = .ok (.getfield 23, 3) := by decide +kernel
theorem dX5_copyFrom_126 : decode cX5_copyFrom 126 = .ok (.iload_n 2, 1) := by decide +kernel
theorem dX5_copyFrom_127 : decode cX5_copyFrom 127 = .ok (.iaload, 1) := by decide +kernel
theorem dX5_copyFrom_128 : decode cX5_copyFrom 128 = .ok (.iastore, 1) := by decide +kernel
theorem dX5_copyFrom_129 : decode cX5_copyFrom 129 = .ok (.iinc 2 1, 3) := by decide +kernel
theorem dX5_copyFrom_132 : decode cX5_copyFrom 132 = .ok (.goto (-20), 3) := by decide +kernel
theorem dX5_copyFrom_135 : decode cX5_copyFrom 135 = .ok (.return_, 1) := by decide +kernel
theorem dX5_startRun_0 : decode cX5_startRun 0 = .ok (.aload_n 0, 1) := by decide +kernel
theorem dX5_startRun_1 : decode cX5_startRun 1 = .ok (.aload_n 1, 1) := by decide +kernel
theorem dX5_startRun_2 : decode cX5_startRun 2 = .ok (.invokevirtual 64, 3) := by decide +kernel
theorem dX5_startRun_5 : decode cX5_startRun 5 = .ok (.iconst 0, 1) := by decide +kernel
theorem dX5_startRun_6 : decode cX5_startRun 6 = .ok (.istore_n 2, 1) := by decide +kernel
theorem dX5_startRun_7 : decode cX5_startRun 7 = .ok (.iload_n 2, 1) := by decide +kernel
theorem dX5_startRun_8 : decode cX5_startRun 8 = .ok (.iconst 5, 1) := by decide +kernel
theorem dX5_startRun_9 : decode cX5_startRun 9 = .ok (.if_icmp .ge 16, 3) := by decide +kernel
theorem dX5_startRun_12 : decode cX5_startRun 12 = .ok (.aload_n 0, 1) := by decide +kernel
theorem dX5_startRun_13 : decode cX5_startRun 13 = .ok (.getfield 23, 3) := by decide +kernel
theorem dX5_startRun_16 : decode cX5_startRun 16 = .ok (.iload_n 2, 1) := by decide +kernel
theorem dX5_startRun_17 : decode cX5_startRun 17 = .ok (.iconst 0, 1) := by decide +kernel
theorem dX5_startRun_18 : decode cX5_startRun 18 = .ok (.iastore, 1) := by decide +kernel
theorem dX5_startRun_19 : decode cX5_startRun 19 = .ok (.iinc 2 1, 3) := by decide +kernel
theorem dX5_startRun_22 : decode cX5_startRun 22 = .ok (.goto (-15), 3) := by decide +kernel
theorem dX5_startRun_25 : decode cX5_startRun 25 = .ok (.return_, 1) := by decide +kernel
theorem dX5_putSalt_0 : decode cX5_putSalt 0 = .ok (.aload_n 0, 1) := by decide +kernel
theorem dX5_putSalt_1 : decode cX5_putSalt 1 = .ok (.iload_n 1, 1) := by decide +kernel
theorem dX5_putSalt_2 : decode cX5_putSalt 2 = .ok (.putfield 36, 3) := by decide +kernel
theorem dX5_putSalt_5 : decode cX5_putSalt 5 = .ok (.aload_n 0, 1) := by decide +kernel
theorem dX5_putSalt_6 : decode cX5_putSalt 6 = .ok (.iload_n 2, 1) := by decide +kernel
theorem dX5_putSalt_7 : decode cX5_putSalt 7 = .ok (.putfield 40, 3) := by decide +kernel
theorem dX5_putSalt_10 : decode cX5_putSalt 10 = .ok (.return_, 1) := by decide +kernel
theorem dX5_isSalted_0 : decode cX5_isSalted 0 = .ok (.iload_n 1, 1) := by decide +kernel
theorem dX5_isSalted_1 : decode cX5_isSalted 1 = .ok (.aload_n 0, 1) := by decide +kernel
theorem dX5_isSalted_2 : decode cX5_isSalted 2 = .ok (.getfield 36, 3) := by decide +kernel
theorem dX5_isSalted_5 : decode cX5_isSalted 5 = .ok (.if_icmp .ne 18, 3) := by decide +kernel
theorem dX5_isSalted_8 : decode cX5_isSalted 8 = .ok (.aload_n 0, 1) := by decide +kernel
theorem dX5_isSalted_9 : decode cX5_isSalted 9 = .ok (.getfield 54, 3) := by decide +kernel
theorem dX5_isSalted_12 : decode cX5_isSalted 12 = .ok (.aload_n 0, 1) := by decide +kernel
theorem dX5_isSalted_13 : decode cX5_isSalted 13 = .ok (.getfield 40, 3) := by decide +kernel
theorem dX5_isSalted_16 : decode cX5_isSalted 16 = .ok (.if_icmp .lt 7, 3) := by decide +kernel
theorem dX5_isSalted_19 : decode cX5_isSalted 19 = .ok (.iconst 1, 1) := by decide +kernel
theorem dX5_isSalted_20 : decode cX5_isSalted 20 = .ok (.goto 4, 3) := by decide +kernel
theorem dX5_isSalted_23 : decode cX5_isSalted 23 = .ok (.iconst 0, 1) := by decide +kernel
theorem dX5_isSalted_24 : decode cX5_isSalted 24 = .ok (.ireturn, 1) := by decide +kernel
theorem dX5_hasStackOn_0 : decode cX5_hasStackOn 0 = .ok (.iconst 0, 1) := by decide +kernel
theorem dX5_hasStackOn_1 : decode cX5_hasStackOn 1 = .ok (.istore_n 3, 1) := by decide +kernel
theorem dX5_hasStackOn_2 : decode cX5_hasStackOn 2 = .ok (.iload_n 3, 1) := by decide +kernel
theorem dX5_hasStackOn_3 : decode cX5_hasStackOn 3 = .ok (.aload_n 0, 1) := by decide +kernel
theorem dX5_hasStackOn_4 : decode cX5_hasStackOn 4 = .ok (.getfield 48, 3) := by decide +kernel
theorem dX5_hasStackOn_7 : decode cX5_hasStackOn 7 = .ok (.if_icmp .ge 49, 3) := by decide +kernel
theorem dX5_hasStackOn_10 : decode cX5_hasStackOn 10 = .ok (.aload_n 0, 1) := by decide +kernel
theorem dX5_hasStackOn_11 : decode cX5_hasStackOn 11 = .ok (.getfield 11, 3) := by decide +kernel
theorem dX5_hasStackOn_14 : decode cX5_hasStackOn 14 = .ok (.iload_n 3, 1) := by decide +kernel
theorem dX5_hasStackOn_15 : decode cX5_hasStackOn 15 = .ok (.aaload, 1) := by decide +kernel
theorem dX5_hasStackOn_16 : decode cX5_hasStackOn 16 = .ok (.getfield 67, 3) := by decide +kernel
theorem dX5_hasStackOn_19 : decode cX5_hasStackOn 19 = .ok (.ifCond .eq 31, 3) := by decide +kernel
theorem dX5_hasStackOn_22 : decode cX5_hasStackOn 22 = .ok (.aload_n 0, 1) := by decide +kernel
theorem dX5_hasStackOn_23 : decode cX5_hasStackOn 23 = .ok (.getfield 11, 3) := by decide +kernel
theorem dX5_hasStackOn_26 : decode cX5_hasStackOn 26 = .ok (.iload_n 3, 1) := by decide +kernel
theorem dX5_hasStackOn_27 : decode cX5_hasStackOn 27 = .ok (.aaload, 1) := by decide +kernel
theorem dX5_hasStackOn_28 : decode cX5_hasStackOn 28 = .ok (.getfield 71, 3) := by decide +kernel
theorem dX5_hasStackOn_31 : decode cX5_hasStackOn 31 = .ok (.iload_n 1, 1) := by decide +kernel
theorem dX5_hasStackOn_32 : decode cX5_hasStackOn 32 = .ok (.if_icmp .ne 18, 3) := by decide +kernel
theorem dX5_hasStackOn_35 : decode cX5_hasStackOn 35 = .ok (.aload_n 0, 1) := by decide +kernel
theorem dX5_hasStackOn_36 : decode cX5_hasStackOn 36 = .ok (.getfield 11, 3) := by decide +kernel
theorem dX5_hasStackOn_39 : decode cX5_hasStackOn 39 = .ok (.iload_n 3, 1) := by decide +kernel
theorem dX5_hasStackOn_40 : decode cX5_hasStackOn 40 = .ok (.aaload, 1) := by decide +kernel
theorem dX5_hasStackOn_41 : decode cX5_hasStackOn 41 = .ok (.getfield 74, 3) := by decide +kernel
theorem dX5_hasStackOn_44 : decode cX5_hasStackOn 44 = .ok (.iload_n 2, 1) := by decide +kernel
theorem dX5_hasStackOn_45 : decode cX5_hasStackOn 45 = .ok (.if_icmp .ne 5, 3) := by decide +kernel
theorem dX5_hasStackOn_48 : decode cX5_hasStackOn 48 = .ok (.iconst 1, 1) := by decide +kernel
theorem dX5_hasStackOn_49 : decode cX5_hasStackOn 49 = .ok (.ireturn, 1) := by decide +kernel
theorem dX5_hasStackOn_50 : decode cX5_hasStackOn 50 = .ok (.iinc 3 1, 3) := by decide +kernel
theorem dX5_hasStackOn_53 : decode cX5_hasStackOn 53 = .ok (.goto (-51), 3) := by decide +kernel
theorem dX5_hasStackOn_56 : decode cX5_hasStackOn 56 = .ok (.iconst 0, 1) := by decide +kernel
theorem dX5_hasStackOn_57 : decode cX5_hasStackOn 57 = .ok (.ireturn, 1) := by decide +kernel
theorem dX5_standingCount_0 : decode cX5_standingCount 0 = .ok (.iconst 0, 1) := by decide +kernel
theorem dX5_standingCount_1 : decode cX5_standingCount 1 = .ok (.istore_n 1, 1) := by decide +kernel
theorem dX5_standingCount_2 : decode cX5_standingCount 2 = .ok (.iconst 0, 1) := by decide +kernel
theorem dX5_standingCount_3 : decode cX5_standingCount 3 = .ok (.istore_n 2, 1) := by decide +kernel
theorem dX5_standingCount_4 : decode cX5_standingCount 4 = .ok (.iload_n 2, 1) := by decide +kernel
theorem dX5_standingCount_5 : decode cX5_standingCount 5 = .ok (.aload_n 0, 1) := by decide +kernel
theorem dX5_standingCount_6 : decode cX5_standingCount 6 = .ok (.getfield 48, 3) := by decide +kernel
theorem dX5_standingCount_9 : decode cX5_standingCount 9 = .ok (.if_icmp .ge 29, 3) := by decide +kernel
theorem dX5_standingCount_12 : decode cX5_standingCount 12 = .ok (.iload_n 1, 1) := by decide +kernel
theorem dX5_standingCount_13 : decode cX5_standingCount 13 = .ok (.aload_n 0, 1) := by decide +kernel
theorem dX5_standingCount_14 : decode cX5_standingCount 14 = .ok (.getfield 11, 3) := by decide +kernel
theorem dX5_standingCount_17 : decode cX5_standingCount 17 = .ok (.iload_n 2, 1) := by decide +kernel
theorem dX5_standingCount_18 : decode cX5_standingCount 18 = .ok (.aaload, 1) := by decide +kernel
theorem dX5_standingCount_19 : decode cX5_standingCount 19 = .ok (.getfield 67, 3) := by decide +kernel
theorem dX5_standingCount_22 : decode cX5_standingCount 22 = .ok (.ifCond .eq 7, 3) := by decide +kernel
theorem dX5_standingCount_25 : decode cX5_standingCount 25 = .ok (.iconst 1, 1) := by decide +kernel
theorem dX5_standingCount_26 : decode cX5_standingCount 26 = .ok (.goto 4, 3) := by decide +kernel
theorem dX5_standingCount_29 : decode cX5_standingCount 29 = .ok (.iconst 0, 1) := by decide +kernel
theorem dX5_standingCount_30 : decode cX5_standingCount 30 = .ok (.iadd, 1) := by decide +kernel
theorem dX5_standingCount_31 : decode cX5_standingCount 31 = .ok (.istore_n 1, 1) := by decide +kernel
theorem dX5_standingCount_32 : decode cX5_standingCount 32 = .ok (.iinc 2 1, 3) := by decide +kernel
theorem dX5_standingCount_35 : decode cX5_standingCount 35 = .ok (.goto (-31), 3) := by decide +kernel
theorem dX5_standingCount_38 : decode cX5_standingCount 38 = .ok (.iload_n 1, 1) := by decide +kernel
theorem dX5_standingCount_39 : decode cX5_standingCount 39 = .ok (.ireturn, 1) := by decide +kernel
theorem dX5_forgetAmounts_0 : decode cX5_forgetAmounts 0 = .ok (.iconst 0, 1) := by decide +kernel
theorem dX5_forgetAmounts_1 : decode cX5_forgetAmounts 1 = .ok (.istore_n 1, 1) := by decide +kernel
theorem dX5_forgetAmounts_2 : decode cX5_forgetAmounts 2 = .ok (.iload_n 1, 1) := by decide +kernel
theorem dX5_forgetAmounts_3 : decode cX5_forgetAmounts 3 = .ok (.sipush 192, 3) := by decide +kernel
theorem dX5_forgetAmounts_6 : decode cX5_forgetAmounts 6 = .ok (.if_icmp .ge 16, 3) := by decide +kernel
theorem dX5_forgetAmounts_9 : decode cX5_forgetAmounts 9 = .ok (.aload_n 0, 1) := by decide +kernel
theorem dX5_forgetAmounts_10 : decode cX5_forgetAmounts 10 = .ok (.getfield 30, 3) := by decide +kernel
theorem dX5_forgetAmounts_13 : decode cX5_forgetAmounts 13 = .ok (.iload_n 1, 1) := by decide +kernel
theorem dX5_forgetAmounts_14 : decode cX5_forgetAmounts 14 = .ok (.iconst (-1), 1) := by decide +kernel
theorem dX5_forgetAmounts_15 : decode cX5_forgetAmounts 15 = .ok (.iastore, 1) := by decide +kernel
theorem dX5_forgetAmounts_16 : decode cX5_forgetAmounts 16 = .ok (.iinc 1 1, 3) := by decide +kernel
theorem dX5_forgetAmounts_19 : decode cX5_forgetAmounts 19 = .ok (.goto (-17), 3) := by decide +kernel
theorem dX5_forgetAmounts_22 : decode cX5_forgetAmounts 22 = .ok (.return_, 1) := by decide +kernel
theorem dX5_bestStack_0 : decode cX5_bestStack 0 = .ok (.iconst (-1), 1) := by decide +kernel
theorem dX5_bestStack_1 : decode cX5_bestStack 1 = .ok (.istore_n 3, 1) := by decide +kernel
theorem dX5_bestStack_2 : decode cX5_bestStack 2 = .ok (.iconst 0, 1) := by decide +kernel
theorem dX5_bestStack_3 : decode cX5_bestStack 3 = .ok (.istore 4, 2) := by decide +kernel
theorem dX5_bestStack_5 : decode cX5_bestStack 5 = .ok (.iconst 0, 1) := by decide +kernel
theorem dX5_bestStack_6 : decode cX5_bestStack 6 = .ok (.istore 5, 2) := by decide +kernel
theorem dX5_bestStack_8 : decode cX5_bestStack 8 = .ok (.iload 5, 2) := by decide +kernel
theorem dX5_bestStack_10 : decode cX5_bestStack 10 = .ok (.aload_n 0, 1) := by decide +kernel
theorem dX5_bestStack_11 : decode cX5_bestStack 11 = .ok (.getfield 48, 3) := by decide +kernel
theorem dX5_bestStack_14 : decode cX5_bestStack 14 = .ok (.if_icmp .ge 134, 3) := by decide +kernel
theorem dX5_bestStack_17 : decode cX5_bestStack 17 = .ok (.aload_n 0, 1) := by decide +kernel
theorem dX5_bestStack_18 : decode cX5_bestStack 18 = .ok (.getfield 11, 3) := by decide +kernel
theorem dX5_bestStack_21 : decode cX5_bestStack 21 = .ok (.iload 5, 2) := by decide +kernel
theorem dX5_bestStack_23 : decode cX5_bestStack 23 = .ok (.aaload, 1) := by decide +kernel
theorem dX5_bestStack_24 : decode cX5_bestStack 24 = .ok (.getfield 67, 3) := by decide +kernel
theorem dX5_bestStack_27 : decode cX5_bestStack 27 = .ok (.ifCond .eq 115, 3) := by decide +kernel
theorem dX5_bestStack_30 : decode cX5_bestStack 30 = .ok (.aload_n 0, 1) := by decide +kernel
theorem dX5_bestStack_31 : decode cX5_bestStack 31 = .ok (.getfield 11, 3) := by decide +kernel
theorem dX5_bestStack_34 : decode cX5_bestStack 34 = .ok (.iload 5, 2) := by decide +kernel
theorem dX5_bestStack_36 : decode cX5_bestStack 36 = .ok (.aaload, 1) := by decide +kernel
theorem dX5_bestStack_37 : decode cX5_bestStack 37 = .ok (.getfield 77, 3) := by decide +kernel
theorem dX5_bestStack_40 : decode cX5_bestStack 40 = .ok (.ifCond .le 102, 3) := by decide +kernel
theorem dX5_bestStack_43 : decode cX5_bestStack 43 = .ok (.iload_n 2, 1) := by decide +kernel
theorem dX5_bestStack_44 : decode cX5_bestStack 44 = .ok (.bipush 12, 2) := by decide +kernel
theorem dX5_bestStack_46 : decode cX5_bestStack 46 = .ok (.imul, 1) := by decide +kernel
theorem dX5_bestStack_47 : decode cX5_bestStack 47 = .ok (.iload 5, 2) := by decide +kernel
theorem dX5_bestStack_49 : decode cX5_bestStack 49 = .ok (.iadd, 1) := by decide +kernel
theorem dX5_bestStack_50 : decode cX5_bestStack 50 = .ok (.istore 6, 2) := by decide +kernel
theorem dX5_bestStack_52 : decode cX5_bestStack 52 = .ok (.aload_n 1, 1) := by decide +kernel
theorem dX5_bestStack_53 : decode cX5_bestStack 53 = .ok (.aload_n 0, 1) := by decide +kernel
theorem dX5_bestStack_54 : decode cX5_bestStack 54 = .ok (.getfield 11, 3) := by decide +kernel
theorem dX5_bestStack_57 : decode cX5_bestStack 57 = .ok (.iload 5, 2) := by decide +kernel
theorem dX5_bestStack_59 : decode cX5_bestStack 59 = .ok (.aaload, 1) := by decide +kernel
theorem dX5_bestStack_60 : decode cX5_bestStack 60 = .ok (.aload_n 0, 1) := by decide +kernel
theorem dX5_bestStack_61 : decode cX5_bestStack 61 = .ok (.iload 5, 2) := by decide +kernel
theorem dX5_bestStack_63 : decode cX5_bestStack 63 = .ok (.invokevirtual 80, 3) := by decide +kernel
theorem dX5_bestStack_66 : decode cX5_bestStack 66 = .ok (.invokevirtual 84, 3) := by decide +kernel
theorem dX5_bestStack_69 : decode cX5_bestStack 69 = .ok (.istore 7, 2) := by decide +kernel
theorem dX5_bestStack_71 : decode cX5_bestStack 71 = .ok (.aload_n 0, 1) := by decide +kernel
theorem dX5_bestStack_72 : decode cX5_bestStack 72 = .ok (.getfield 30, 3) := by decide +kernel
theorem dX5_bestStack_75 : decode cX5_bestStack 75 = .ok (.iload 6, 2) := by decide +kernel
theorem dX5_bestStack_77 : decode cX5_bestStack 77 = .ok (.iaload, 1) := by decide +kernel
theorem dX5_bestStack_78 : decode cX5_bestStack 78 = .ok (.iconst (-1), 1) := by decide +kernel
theorem dX5_bestStack_79 : decode cX5_bestStack 79 = .ok (.if_icmp .eq 15, 3) := by decide +kernel
theorem dX5_bestStack_82 : decode cX5_bestStack 82 = .ok (.aload_n 0, 1) := by decide +kernel
theorem dX5_bestStack_83 : decode cX5_bestStack 83 = .ok (.getfield 33, 3) := by decide +kernel
theorem dX5_bestStack_86 : decode cX5_bestStack 86 = .ok (.iload 6, 2) := by decide +kernel
theorem dX5_bestStack_88 : decode cX5_bestStack 88 = .ok (.iaload, 1) := by decide +kernel
theorem dX5_bestStack_89 : decode cX5_bestStack 89 = .ok (.iload 7, 2) := by decide +kernel
theorem dX5_bestStack_91 : decode cX5_bestStack 91 = .ok (.if_icmp .eq 27, 3) := by decide +kernel
theorem dX5_bestStack_94 : decode cX5_bestStack 94 = .ok (.aload_n 0, 1) := by decide +kernel
theorem dX5_bestStack_95 : decode cX5_bestStack 95 = .ok (.getfield 30, 3) := by decide +kernel
theorem dX5_bestStack_98 : decode cX5_bestStack 98 = .ok (.iload 6, 2) := by decide +kernel
theorem dX5_bestStack_100 : decode cX5_bestStack 100 = .ok (.aload_n 1, 1) := by decide +kernel
theorem dX5_bestStack_101 : decode cX5_bestStack 101 = .ok (.aload_n 0, 1) := by decide +kernel
theorem dX5_bestStack_102 : decode cX5_bestStack 102 = .ok (.iload_n 2, 1) := by decide +kernel
theorem dX5_bestStack_103 : decode cX5_bestStack 103 = .ok (.iload 5, 2) := by decide +kernel
theorem dX5_bestStack_105 : decode cX5_bestStack 105 = .ok (.invokevirtual 90, 3) := by decide +kernel
theorem dX5_bestStack_108 : decode cX5_bestStack 108 = .ok (.iastore, 1) := by decide +kernel
theorem dX5_bestStack_109 : decode cX5_bestStack 109 = .ok (.aload_n 0, 1) := by decide +kernel
theorem dX5_bestStack_110 : decode cX5_bestStack 110 = .ok (.getfield 33, 3) := by decide +kernel
theorem dX5_bestStack_113 : decode cX5_bestStack 113 = .ok (.iload 6, 2) := by decide +kernel
theorem dX5_bestStack_115 : decode cX5_bestStack 115 = .ok (.iload 7, 2) := by decide +kernel
theorem dX5_bestStack_117 : decode cX5_bestStack 117 = .ok (.iastore, 1) := by decide +kernel
theorem dX5_bestStack_118 : decode cX5_bestStack 118 = .ok (.aload_n 0, 1) := by decide +kernel
theorem dX5_bestStack_119 : decode cX5_bestStack 119 = .ok (.getfield 30, 3) := by decide +kernel
theorem dX5_bestStack_122 : decode cX5_bestStack 122 = .ok (.iload 6, 2) := by decide +kernel
theorem dX5_bestStack_124 : decode cX5_bestStack 124 = .ok (.iaload, 1) := by decide +kernel
theorem dX5_bestStack_125 : decode cX5_bestStack 125 = .ok (.iload 4, 2) := by decide +kernel
theorem dX5_bestStack_127 : decode cX5_bestStack 127 = .ok (.if_icmp .le 15, 3) := by decide +kernel
theorem dX5_bestStack_130 : decode cX5_bestStack 130 = .ok (.aload_n 0, 1) := by decide +kernel
theorem dX5_bestStack_131 : decode cX5_bestStack 131 = .ok (.getfield 30, 3) := by decide +kernel
theorem dX5_bestStack_134 : decode cX5_bestStack 134 = .ok (.iload 6, 2) := by decide +kernel
theorem dX5_bestStack_136 : decode cX5_bestStack 136 = .ok (.iaload, 1) := by decide +kernel
theorem dX5_bestStack_137 : decode cX5_bestStack 137 = .ok (.istore 4, 2) := by decide +kernel
theorem dX5_bestStack_139 : decode cX5_bestStack 139 = .ok (.iload 5, 2) := by decide +kernel
theorem dX5_bestStack_141 : decode cX5_bestStack 141 = .ok (.istore_n 3, 1) := by decide +kernel
theorem dX5_bestStack_142 : decode cX5_bestStack 142 = .ok (.iinc 5 1, 3) := by decide +kernel
theorem dX5_bestStack_145 : decode cX5_bestStack 145 = .ok (.goto (-137), 3) := by decide +kernel
theorem dX5_bestStack_148 : decode cX5_bestStack 148 = .ok (.iload_n 3, 1) := by decide +kernel
theorem dX5_bestStack_149 : decode cX5_bestStack 149 = .ok (.ireturn, 1) := by decide +kernel
theorem dX5_passDay_0 : decode cX5_passDay 0 = .ok (.iconst 0, 1) := by decide +kernel
theorem dX5_passDay_1 : decode cX5_passDay 1 = .ok (.istore_n 2, 1) := by decide +kernel
theorem dX5_passDay_2 : decode cX5_passDay 2 = .ok (.iconst 0, 1) := by decide +kernel
theorem dX5_passDay_3 : decode cX5_passDay 3 = .ok (.istore_n 3, 1) := by decide +kernel
theorem dX5_passDay_4 : decode cX5_passDay 4 = .ok (.iload_n 3, 1) := by decide +kernel
theorem dX5_passDay_5 : decode cX5_passDay 5 = .ok (.aload_n 0, 1) := by decide +kernel
theorem dX5_passDay_6 : decode cX5_passDay 6 = .ok (.getfield 51, 3) := by decide +kernel
theorem dX5_passDay_9 : decode cX5_passDay 9 = .ok (.if_icmp .ge 41, 3) := by decide +kernel
theorem dX5_passDay_12 : decode cX5_passDay 12 = .ok (.aload_n 0, 1) := by decide +kernel
theorem dX5_passDay_13 : decode cX5_passDay 13 = .ok (.aload_n 1, 1) := by decide +kernel
theorem dX5_passDay_14 : decode cX5_passDay 14 = .ok (.iload_n 3, 1) := by decide +kernel
theorem dX5_passDay_15 : decode cX5_passDay 15 = .ok (.invokevirtual 94, 3) := by decide +kernel
theorem dX5_passDay_18 : decode cX5_passDay 18 = .ok (.istore 4, 2) := by decide +kernel
theorem dX5_passDay_20 : decode cX5_passDay 20 = .ok (.aload_n 0, 1) := by decide +kernel
theorem dX5_passDay_21 : decode cX5_passDay 21 = .ok (.getfield 27, 3) := by decide +kernel
theorem dX5_passDay_24 : decode cX5_passDay 24 = .ok (.iload_n 3, 1) := by decide +kernel
theorem dX5_passDay_25 : decode cX5_passDay 25 = .ok (.iload 4, 2) := by decide +kernel
theorem dX5_passDay_27 : decode cX5_passDay 27 = .ok (.iastore, 1) := by decide +kernel
theorem dX5_passDay_28 : decode cX5_passDay 28 = .ok (.iload 4, 2) := by decide +kernel
theorem dX5_passDay_30 : decode cX5_passDay 30 = .ok (.iconst (-1), 1) := by decide +kernel
theorem dX5_passDay_31 : decode cX5_passDay 31 = .ok (.if_icmp .eq 13, 3) := by decide +kernel
theorem dX5_passDay_34 : decode cX5_passDay 34 = .ok (.iload_n 2, 1) := by decide +kernel
theorem dX5_passDay_35 : decode cX5_passDay 35 = .ok (.aload_n 0, 1) := by decide +kernel
theorem dX5_passDay_36 : decode cX5_passDay 36 = .ok (.iload 4, 2) := by decide +kernel
theorem dX5_passDay_38 : decode cX5_passDay 38 = .ok (.iload_n 3, 1) := by decide +kernel
theorem dX5_passDay_39 : decode cX5_passDay 39 = .ok (.invokevirtual 98, 3) := by decide +kernel
theorem dX5_passDay_42 : decode cX5_passDay 42 = .ok (.iadd, 1) := by decide +kernel
theorem dX5_passDay_43 : decode cX5_passDay 43 = .ok (.istore_n 2, 1) := by decide +kernel
theorem dX5_passDay_44 : decode cX5_passDay 44 = .ok (.iinc 3 1, 3) := by decide +kernel
theorem dX5_passDay_47 : decode cX5_passDay 47 = .ok (.goto (-43), 3) := by decide +kernel
theorem dX5_passDay_50 : decode cX5_passDay 50 = .ok (.iconst 0, 1) := by decide +kernel
theorem dX5_passDay_51 : decode cX5_passDay 51 = .ok (.istore_n 3, 1) := by decide +kernel
theorem dX5_passDay_52 : decode cX5_passDay 52 = .ok (.iload_n 3, 1) := by decide +kernel
theorem dX5_passDay_53 : decode cX5_passDay 53 = .ok (.aload_n 0, 1) := by decide +kernel
theorem dX5_passDay_54 : decode cX5_passDay 54 = .ok (.getfield 48, 3) := by decide +kernel
theorem dX5_passDay_57 : decode cX5_passDay 57 = .ok (.if_icmp .ge 27, 3) := by decide +kernel
theorem dX5_passDay_60 : decode cX5_passDay 60 = .ok (.aload_n 0, 1) := by decide +kernel
theorem dX5_passDay_61 : decode cX5_passDay 61 = .ok (.getfield 11, 3) := by decide +kernel
theorem dX5_passDay_64 : decode cX5_passDay 64 = .ok (.iload_n 3, 1) := by decide +kernel
theorem dX5_passDay_65 : decode cX5_passDay 65 = .ok (.aaload, 1) := by decide +kernel
theorem dX5_passDay_66 : decode cX5_passDay 66 = .ok (.getfield 67, 3) := by decide +kernel
theorem dX5_passDay_69 : decode cX5_passDay 69 = .ok (.ifCond .eq 9, 3) := by decide +kernel
theorem dX5_passDay_72 : decode cX5_passDay 72 = .ok (.aload_n 0, 1) := by decide +kernel
theorem dX5_passDay_73 : decode cX5_passDay 73 = .ok (.aload_n 1, 1) := by decide +kernel
theorem dX5_passDay_74 : decode cX5_passDay 74 = .ok (.iload_n 3, 1) := by decide +kernel
theorem dX5_passDay_75 : decode cX5_passDay 75 = .ok (.invokevirtual 102, 3) := by decide +kernel
theorem dX5_passDay_78 : decode cX5_passDay 78 = .ok (.iinc 3 1, 3) := by decide +kernel
theorem dX5_passDay_81 : decode cX5_passDay 81 = .ok (.goto (-29), 3) := by decide +kernel
theorem dX5_passDay_84 : decode cX5_passDay 84 = .ok (.aload_n 0, 1) := by decide +kernel
theorem dX5_passDay_85 : decode cX5_passDay 85 = .ok (.dup, 1) := by decide +kernel
theorem dX5_passDay_86 : decode cX5_passDay 86 = .ok (.getfield 54, 3) := by decide +kernel
theorem dX5_passDay_89 : decode cX5_passDay 89 = .ok (.iconst 1, 1) := by decide +kernel
theorem dX5_passDay_90 : decode cX5_passDay 90 = .ok (.iadd, 1) := by decide +kernel
theorem dX5_passDay_91 : decode cX5_passDay 91 = .ok (.putfield 54, 3) := by decide +kernel
theorem dX5_passDay_94 : decode cX5_passDay 94 = .ok (.iload_n 2, 1) := by decide +kernel
theorem dX5_passDay_95 : decode cX5_passDay 95 = .ok (.ireturn, 1) := by decide +kernel
theorem dX5_eatAt_0 : decode cX5_eatAt 0 = .ok (.aload_n 0, 1) := by decide +kernel
theorem dX5_eatAt_1 : decode cX5_eatAt 1 = .ok (.getfield 11, 3) := by decide +kernel
theorem dX5_eatAt_4 : decode cX5_eatAt 4 = .ok (.iload_n 1, 1) := by decide +kernel
theorem dX5_eatAt_5 : decode cX5_eatAt 5 = .ok (.aaload, 1) := by decide +kernel
theorem dX5_eatAt_6 : decode cX5_eatAt 6 = .ok (.astore_n 3, 1) := by decide +kernel
theorem dX5_eatAt_7 : decode cX5_eatAt 7 = .ok (.aload_n 0, 1) := by decide +kernel
theorem dX5_eatAt_8 : decode cX5_eatAt 8 = .ok (.getfield 19, 3) := by decide +kernel
theorem dX5_eatAt_11 : decode cX5_eatAt 11 = .ok (.iload_n 2, 1) := by decide +kernel
theorem dX5_eatAt_12 : decode cX5_eatAt 12 = .ok (.aaload, 1) := by decide +kernel
theorem dX5_eatAt_13 : decode cX5_eatAt 13 = .ok (.astore 4, 2) := by decide +kernel
theorem dX5_eatAt_15 : decode cX5_eatAt 15 = .ok (.aload 4, 2) := by decide +kernel
theorem dX5_eatAt_17 : decode cX5_eatAt 17 = .ok (.getfield 106, 3) := by decide +kernel
theorem dX5_eatAt_20 : decode cX5_eatAt 20 = .ok (.aload_n 3, 1) := by decide +kernel
theorem dX5_eatAt_21 : decode cX5_eatAt 21 = .ok (.getfield 77, 3) := by decide +kernel
theorem dX5_eatAt_24 : decode cX5_eatAt 24 = .ok (.invokestatic 109, 3) := by decide +kernel
theorem dX5_eatAt_27 : decode cX5_eatAt 27 = .ok (.istore 5, 2) := by decide +kernel
theorem dX5_eatAt_29 : decode cX5_eatAt 29 = .ok (.aload_n 3, 1) := by decide +kernel
theorem dX5_eatAt_30 : decode cX5_eatAt 30 = .ok (.dup, 1) := by decide +kernel
theorem dX5_eatAt_31 : decode cX5_eatAt 31 = .ok (.getfield 77, 3) := by decide +kernel
theorem dX5_eatAt_34 : decode cX5_eatAt 34 = .ok (.iload 5, 2) := by decide +kernel
theorem dX5_eatAt_36 : decode cX5_eatAt 36 = .ok (.isub, 1) := by decide +kernel
theorem dX5_eatAt_37 : decode cX5_eatAt 37 = .ok (.putfield 77, 3) := by decide +kernel
theorem dX5_eatAt_40 : decode cX5_eatAt 40 = .ok (.aload_n 3, 1) := by decide +kernel
theorem dX5_eatAt_41 : decode cX5_eatAt 41 = .ok (.getfield 114, 3) := by decide +kernel
theorem dX5_eatAt_44 : decode cX5_eatAt 44 = .ok (.iload_n 2, 1) := by decide +kernel
theorem dX5_eatAt_45 : decode cX5_eatAt 45 = .ok (.dup2, 1) := by decide +kernel
theorem dX5_eatAt_46 : decode cX5_eatAt 46 = .ok (.iaload, 1) := by decide +kernel
theorem dX5_eatAt_47 : decode cX5_eatAt 47 = .ok (.iload 5, 2) := by decide +kernel
theorem dX5_eatAt_49 : decode cX5_eatAt 49 = .ok (.iadd, 1) := by decide +kernel
theorem dX5_eatAt_50 : decode cX5_eatAt 50 = .ok (.iastore, 1) := by decide +kernel
theorem dX5_eatAt_51 : decode cX5_eatAt 51 = .ok (.aload_n 0, 1) := by decide +kernel
theorem dX5_eatAt_52 : decode cX5_eatAt 52 = .ok (.getfield 23, 3) := by decide +kernel
theorem dX5_eatAt_55 : decode cX5_eatAt 55 = .ok (.aload_n 3, 1) := by decide +kernel
theorem dX5_eatAt_56 : decode cX5_eatAt 56 = .ok (.getfield 117, 3) := by decide +kernel
theorem dX5_eatAt_59 : decode cX5_eatAt 59 = .ok (.dup2, 1) := by decide +kernel
theorem dX5_eatAt_60 : decode cX5_eatAt 60 = .ok (.iaload, 1) := by decide +kernel
theorem dX5_eatAt_61 : decode cX5_eatAt 61 = .ok (.aload 4, 2) := by decide +kernel
theorem dX5_eatAt_63 : decode cX5_eatAt 63 = .ok (.getfield 120, 3) := by decide +kernel
theorem dX5_eatAt_66 : decode cX5_eatAt 66 = .ok (.iadd, 1) := by decide +kernel
theorem dX5_eatAt_67 : decode cX5_eatAt 67 = .ok (.iastore, 1) := by decide +kernel
theorem dX5_eatAt_68 : decode cX5_eatAt 68 = .ok (.aload 4, 2) := by decide +kernel
theorem dX5_eatAt_70 : decode cX5_eatAt 70 = .ok (.aload_n 3, 1) := by decide +kernel
theorem dX5_eatAt_71 : decode cX5_eatAt 71 = .ok (.getfield 117, 3) := by decide +kernel
theorem dX5_eatAt_74 : decode cX5_eatAt 74 = .ok (.putfield 123, 3) := by decide +kernel
theorem dX5_eatAt_77 : decode cX5_eatAt 77 = .ok (.iload 5, 2) := by decide +kernel
theorem dX5_eatAt_79 : decode cX5_eatAt 79 = .ok (.ireturn, 1) := by decide +kernel
theorem dX5_heatUp_0 : decode cX5_heatUp 0 = .ok (.aload_n 0, 1) := by decide +kernel
theorem dX5_heatUp_1 : decode cX5_heatUp 1 = .ok (.getfield 11, 3) := by decide +kernel
theorem dX5_heatUp_4 : decode cX5_heatUp 4 = .ok (.iload_n 2, 1) := by decide +kernel
theorem dX5_heatUp_5 : decode cX5_heatUp 5 = .ok (.aaload, 1) := by decide +kernel
theorem dX5_heatUp_6 : decode cX5_heatUp 6 = .ok (.dup, 1) := by decide +kernel
theorem dX5_heatUp_7 : decode cX5_heatUp 7 = .ok (.getfield 126, 3) := by decide +kernel
theorem dX5_heatUp_10 : decode cX5_heatUp 10 = .ok (.aload_n 1, 1) := by decide +kernel
theorem dX5_heatUp_11 : decode cX5_heatUp 11 = .ok (.aload_n 0, 1) := by decide +kernel
theorem dX5_heatUp_12 : decode cX5_heatUp 12 = .ok (.iload_n 2, 1) := by decide +kernel
theorem dX5_heatUp_13 : decode cX5_heatUp 13 = .ok (.invokevirtual 129, 3) := by decide +kernel
theorem dX5_heatUp_16 : decode cX5_heatUp 16 = .ok (.iadd, 1) := by decide +kernel
theorem dX5_heatUp_17 : decode cX5_heatUp 17 = .ok (.putfield 126, 3) := by decide +kernel
theorem dX5_heatUp_20 : decode cX5_heatUp 20 = .ok (.aload_n 0, 1) := by decide +kernel
theorem dX5_heatUp_21 : decode cX5_heatUp 21 = .ok (.getfield 11, 3) := by decide +kernel
theorem dX5_heatUp_24 : decode cX5_heatUp 24 = .ok (.iload_n 2, 1) := by decide +kernel
theorem dX5_heatUp_25 : decode cX5_heatUp 25 = .ok (.aaload, 1) := by decide +kernel
theorem dX5_heatUp_26 : decode cX5_heatUp 26 = .ok (.getfield 126, 3) := by decide +kernel
theorem dX5_heatUp_29 : decode cX5_heatUp 29 = .ok (.sipush 500, 3) := by decide +kernel
theorem dX5_heatUp_32 : decode cX5_heatUp 32 = .ok (.if_icmp .lt 12, 3) := by decide +kernel
theorem dX5_heatUp_35 : decode cX5_heatUp 35 = .ok (.aload_n 0, 1) := by decide +kernel
theorem dX5_heatUp_36 : decode cX5_heatUp 36 = .ok (.getfield 11, 3) := by decide +kernel
theorem dX5_heatUp_39 : decode cX5_heatUp 39 = .ok (.iload_n 2, 1) := by decide +kernel
theorem dX5_heatUp_40 : decode cX5_heatUp 40 = .ok (.aaload, 1) := by decide +kernel
theorem dX5_heatUp_41 : decode cX5_heatUp 41 = .ok (.invokevirtual 133, 3) := by decide +kernel
theorem dX5_heatUp_44 : decode cX5_heatUp 44 = .ok (.return_, 1) := by decide +kernel
theorem dX5_winner_0 : decode cX5_winner 0 = .ok (.iconst 0, 1) := by decide +kernel
theorem dX5_winner_1 : decode cX5_winner 1 = .ok (.istore_n 1, 1) := by decide +kernel
theorem dX5_winner_2 : decode cX5_winner 2 = .ok (.iconst 1, 1) := by decide +kernel
theorem dX5_winner_3 : decode cX5_winner 3 = .ok (.istore_n 2, 1) := by decide +kernel
theorem dX5_winner_4 : decode cX5_winner 4 = .ok (.iconst 1, 1) := by decide +kernel
theorem dX5_winner_5 : decode cX5_winner 5 = .ok (.istore_n 3, 1) := by decide +kernel
theorem dX5_winner_6 : decode cX5_winner 6 = .ok (.iload_n 3, 1) := by decide +kernel
theorem dX5_winner_7 : decode cX5_winner 7 = .ok (.iconst 5, 1) := by decide +kernel
theorem dX5_winner_8 : decode cX5_winner 8 = .ok (.if_icmp .ge 48, 3) := by decide +kernel
theorem dX5_winner_11 : decode cX5_winner 11 = .ok (.aload_n 0, 1) := by decide +kernel
theorem dX5_winner_12 : decode cX5_winner 12 = .ok (.getfield 23, 3) := by decide +kernel
theorem dX5_winner_15 : decode cX5_winner 15 = .ok (.iload_n 3, 1) := by decide +kernel
theorem dX5_winner_16 : decode cX5_winner 16 = .ok (.iaload, 1) := by decide +kernel
theorem dX5_winner_17 : decode cX5_winner 17 = .ok (.aload_n 0, 1) := by decide +kernel
theorem dX5_winner_18 : decode cX5_winner 18 = .ok (.getfield 23, 3) := by decide +kernel
theorem dX5_winner_21 : decode cX5_winner 21 = .ok (.iload_n 1, 1) := by decide +kernel
theorem dX5_winner_22 : decode cX5_winner 22 = .ok (.iaload, 1) := by decide +kernel
theorem dX5_winner_23 : decode cX5_winner 23 = .ok (.if_icmp .le 10, 3) := by decide +kernel
theorem dX5_winner_26 : decode cX5_winner 26 = .ok (.iload_n 3, 1) := by decide +kernel
theorem dX5_winner_27 : decode cX5_winner 27 = .ok (.istore_n 1, 1) := by decide +kernel
theorem dX5_winner_28 : decode cX5_winner 28 = .ok (.iconst 1, 1) := by decide +kernel
theorem dX5_winner_29 : decode cX5_winner 29 = .ok (.istore_n 2, 1) := by decide +kernel
theorem dX5_winner_30 : decode cX5_winner 30 = .ok (.goto 20, 3) := by decide +kernel
theorem dX5_winner_33 : decode cX5_winner 33 = .ok (.aload_n 0, 1) := by decide +kernel
theorem dX5_winner_34 : decode cX5_winner 34 = .ok (.getfield 23, 3) := by decide +kernel
theorem dX5_winner_37 : decode cX5_winner 37 = .ok (.iload_n 3, 1) := by decide +kernel
theorem dX5_winner_38 : decode cX5_winner 38 = .ok (.iaload, 1) := by decide +kernel
theorem dX5_winner_39 : decode cX5_winner 39 = .ok (.aload_n 0, 1) := by decide +kernel
theorem dX5_winner_40 : decode cX5_winner 40 = .ok (.getfield 23, 3) := by decide +kernel
theorem dX5_winner_43 : decode cX5_winner 43 = .ok (.iload_n 1, 1) := by decide +kernel
theorem dX5_winner_44 : decode cX5_winner 44 = .ok (.iaload, 1) := by decide +kernel
theorem dX5_winner_45 : decode cX5_winner 45 = .ok (.if_icmp .ne 5, 3) := by decide +kernel
theorem dX5_winner_48 : decode cX5_winner 48 = .ok (.iconst 0, 1) := by decide +kernel
theorem dX5_winner_49 : decode cX5_winner 49 = .ok (.istore_n 2, 1) := by decide +kernel
theorem dX5_winner_50 : decode cX5_winner 50 = .ok (.iinc 3 1, 3) := by decide +kernel
theorem dX5_winner_53 : decode cX5_winner 53 = .ok (.goto (-47), 3) := by decide +kernel
theorem dX5_winner_56 : decode cX5_winner 56 = .ok (.iload_n 2, 1) := by decide +kernel
theorem dX5_winner_57 : decode cX5_winner 57 = .ok (.ifCond .eq 7, 3) := by decide +kernel
theorem dX5_winner_60 : decode cX5_winner 60 = .ok (.iload_n 1, 1) := by decide +kernel
theorem dX5_winner_61 : decode cX5_winner 61 = .ok (.goto 5, 3) := by decide +kernel
theorem dX5_winner_64 : decode cX5_winner 64 = .ok (.bipush (-2), 2) := by decide +kernel
theorem dX5_winner_66 : decode cX5_winner 66 = .ok (.ireturn, 1) := by decide +kernel
theorem dX5_joinWithin_0 : decode cX5_joinWithin 0 = .ok (.iconst 0, 1) := by decide +kernel
theorem dX5_joinWithin_1 : decode cX5_joinWithin 1 = .ok (.istore_n 2, 1) := by decide +kernel
theorem dX5_joinWithin_2 : decode cX5_joinWithin 2 = .ok (.iconst 0, 1) := by decide +kernel
theorem dX5_joinWithin_3 : decode cX5_joinWithin 3 = .ok (.istore_n 3, 1) := by decide +kernel
theorem dX5_joinWithin_4 : decode cX5_joinWithin 4 = .ok (.iload_n 3, 1) := by decide +kernel
theorem dX5_joinWithin_5 : decode cX5_joinWithin 5 = .ok (.aload_n 0, 1) := by decide +kernel
theorem dX5_joinWithin_6 : decode cX5_joinWithin 6 = .ok (.getfield 48, 3) := by decide +kernel
theorem dX5_joinWithin_9 : decode cX5_joinWithin 9 = .ok (.if_icmp .ge 68, 3) := by decide +kernel
theorem dX5_joinWithin_12 : decode cX5_joinWithin 12 = .ok (.iload_n 3, 1) := by decide +kernel
theorem dX5_joinWithin_13 : decode cX5_joinWithin 13 = .ok (.iconst 1, 1) := by decide +kernel
theorem dX5_joinWithin_14 : decode cX5_joinWithin 14 = .ok (.iadd, 1) := by decide +kernel
theorem dX5_joinWithin_15 : decode cX5_joinWithin 15 = .ok (.istore 4, 2) := by decide +kernel
theorem dX5_joinWithin_17 : decode cX5_joinWithin 17 = .ok (.iload 4, 2) := by decide +kernel
theorem dX5_joinWithin_19 : decode cX5_joinWithin 19 = .ok (.aload_n 0, 1) := by decide +kernel
theorem dX5_joinWithin_20 : decode cX5_joinWithin 20 = .ok (.getfield 48, 3) := by decide +kernel
theorem dX5_joinWithin_23 : decode cX5_joinWithin 23 = .ok (.if_icmp .ge 48, 3) := by decide +kernel
theorem dX5_joinWithin_26 : decode cX5_joinWithin 26 = .ok (.aload_n 0, 1) := by decide +kernel
theorem dX5_joinWithin_27 : decode cX5_joinWithin 27 = .ok (.getfield 11, 3) := by decide +kernel
theorem dX5_joinWithin_30 : decode cX5_joinWithin 30 = .ok (.iload_n 3, 1) := by decide +kernel
theorem dX5_joinWithin_31 : decode cX5_joinWithin 31 = .ok (.aaload, 1) := by decide +kernel
theorem dX5_joinWithin_32 : decode cX5_joinWithin 32 = .ok (.aload_n 0, 1) := by decide +kernel
theorem dX5_joinWithin_33 : decode cX5_joinWithin 33 = .ok (.getfield 11, 3) := by decide +kernel
theorem dX5_joinWithin_36 : decode cX5_joinWithin 36 = .ok (.iload 4, 2) := by decide +kernel
theorem dX5_joinWithin_38 : decode cX5_joinWithin 38 = .ok (.aaload, 1) := by decide +kernel
theorem dX5_joinWithin_39 : decode cX5_joinWithin 39 = .ok (.iload_n 1, 1) := by decide +kernel
theorem dX5_joinWithin_40 : decode cX5_joinWithin 40 = .ok (.invokevirtual 136, 3) := by decide +kernel
theorem dX5_joinWithin_43 : decode cX5_joinWithin 43 = .ok (.ifCond .eq 22, 3) := by decide +kernel
theorem dX5_joinWithin_46 : decode cX5_joinWithin 46 = .ok (.aload_n 0, 1) := by decide +kernel
theorem dX5_joinWithin_47 : decode cX5_joinWithin 47 = .ok (.getfield 11, 3) := by decide +kernel
theorem dX5_joinWithin_50 : decode cX5_joinWithin 50 = .ok (.iload_n 3, 1) := by decide +kernel
theorem dX5_joinWithin_51 : decode cX5_joinWithin 51 = .ok (.aaload, 1) := by decide +kernel
theorem dX5_joinWithin_52 : decode cX5_joinWithin 52 = .ok (.aload_n 0, 1) := by decide +kernel
theorem dX5_joinWithin_53 : decode cX5_joinWithin 53 = .ok (.getfield 11, 3) := by decide +kernel
theorem dX5_joinWithin_56 : decode cX5_joinWithin 56 = .ok (.iload 4, 2) := by decide +kernel
theorem dX5_joinWithin_58 : decode cX5_joinWithin 58 = .ok (.aaload, 1) := by decide +kernel
theorem dX5_joinWithin_59 : decode cX5_joinWithin 59 = .ok (.invokevirtual 140, 3) := by decide +kernel
theorem dX5_joinWithin_62 : decode cX5_joinWithin 62 = .ok (.iinc 2 1, 3) := by decide +kernel
theorem dX5_joinWithin_65 : decode cX5_joinWithin 65 = .ok (.iinc 4 1, 3) := by decide +kernel
theorem dX5_joinWithin_68 : decode cX5_joinWithin 68 = .ok (.goto (-51), 3) := by decide +kernel
theorem dX5_joinWithin_71 : decode cX5_joinWithin 71 = .ok (.iinc 3 1, 3) := by decide +kernel
theorem dX5_joinWithin_74 : decode cX5_joinWithin 74 = .ok (.goto (-70), 3) := by decide +kernel
theorem dX5_joinWithin_77 : decode cX5_joinWithin 77 = .ok (.iload_n 2, 1) := by decide +kernel
theorem dX5_joinWithin_78 : decode cX5_joinWithin 78 = .ok (.ireturn, 1) := by decide +kernel
theorem dX5_moveByChance_0 : decode cX5_moveByChance 0 = .ok (.aload_n 0, 1) := by decide +kernel
theorem dX5_moveByChance_1 : decode cX5_moveByChance 1 = .ok (.sipush 25173, 3) := by decide +kernel
theorem dX5_moveByChance_4 : decode cX5_moveByChance 4 = .ok (.aload_n 0, 1) := by decide +kernel
theorem dX5_moveByChance_5 : decode cX5_moveByChance 5 = .ok (.getfield 43, 3) := by decide +kernel
theorem dX5_moveByChance_8 : decode cX5_moveByChance 8 = .ok (.imul, 1) := by decide +kernel
theorem dX5_moveByChance_9 : decode cX5_moveByChance 9 = .ok (.sipush 13849, 3) := by decide +kernel
theorem dX5_moveByChance_12 : decode cX5_moveByChance 12 = .ok (.iadd, 1) := by decide +kernel
theorem dX5_moveByChance_13 : decode cX5_moveByChance 13 = .ok (.ldc 143, 2) := by decide +kernel
theorem dX5_moveByChance_15 : decode cX5_moveByChance 15 = .ok (.irem, 1) := by decide +kernel
theorem dX5_moveByChance_16 : decode cX5_moveByChance 16 = .ok (.putfield 43, 3) := by decide +kernel
theorem dX5_moveByChance_19 : decode cX5_moveByChance 19 = .ok (.aload_n 0, 1) := by decide +kernel
theorem dX5_moveByChance_20 : decode cX5_moveByChance 20 = .ok (.getfield 43, 3) := by decide +kernel
theorem dX5_moveByChance_23 : decode cX5_moveByChance 23 = .ok (.bipush 16, 2) := by decide +kernel
theorem dX5_moveByChance_25 : decode cX5_moveByChance 25 = .ok (.irem, 1) := by decide +kernel
theorem dX5_moveByChance_26 : decode cX5_moveByChance 26 = .ok (.istore_n 1, 1) := by decide +kernel
theorem dX5_moveByChance_27 : decode cX5_moveByChance 27 = .ok (.iload_n 1, 1) := by decide +kernel
theorem dX5_moveByChance_28 : decode cX5_moveByChance 28 = .ok (.aload_n 0, 1) := by decide +kernel
theorem dX5_moveByChance_29 : decode cX5_moveByChance 29 = .ok (.getfield 51, 3) := by decide +kernel
theorem dX5_moveByChance_32 : decode cX5_moveByChance 32 = .ok (.if_icmp .ge 21, 3) := by decide +kernel
theorem dX5_moveByChance_35 : decode cX5_moveByChance 35 = .ok (.aload_n 0, 1) := by decide +kernel
theorem dX5_moveByChance_36 : decode cX5_moveByChance 36 = .ok (.getfield 19, 3) := by decide +kernel
theorem dX5_moveByChance_39 : decode cX5_moveByChance 39 = .ok (.iload_n 1, 1) := by decide +kernel
theorem dX5_moveByChance_40 : decode cX5_moveByChance 40 = .ok (.aaload, 1) := by decide +kernel
theorem dX5_moveByChance_41 : decode cX5_moveByChance 41 = .ok (.aload_n 0, 1) := by decide +kernel
theorem dX5_moveByChance_42 : decode cX5_moveByChance 42 = .ok (.getfield 43, 3) := by decide +kernel
theorem dX5_moveByChance_45 : decode cX5_moveByChance 45 = .ok (.bipush 16, 2) := by decide +kernel
theorem dX5_moveByChance_47 : decode cX5_moveByChance 47 = .ok (.idiv, 1) := by decide +kernel
theorem dX5_moveByChance_48 : decode cX5_moveByChance 48 = .ok (.iconst 4, 1) := by decide +kernel
theorem dX5_moveByChance_49 : decode cX5_moveByChance 49 = .ok (.irem, 1) := by decide +kernel
theorem dX5_moveByChance_50 : decode cX5_moveByChance 50 = .ok (.invokevirtual 144, 3) := by decide +kernel
theorem dX5_moveByChance_53 : decode cX5_moveByChance 53 = .ok (.return_, 1) := by decide +kernel
theorem dX6_init_0 : decode cX6_init 0 = .ok (.aload_n 0, 1) := by decide +kernel
theorem dX6_init_1 : decode cX6_init 1 = .ok (.invokespecial 1, 3) := by decide +kernel
theorem dX6_init_4 : decode cX6_init 4 = .ok (.aload_n 0, 1) := by decide +kernel
theorem dX6_init_5 : decode cX6_init 5 = .ok (.sipush 361, 3) := by decide +kernel
theorem dX6_init_8 : decode cX6_init 8 = .ok (.newarray .long, 2) := by decide +kernel
theorem dX6_init_10 : decode cX6_init 10 = .ok (.putfield 9, 3) := by decide +kernel
theorem dX6_init_13 : decode cX6_init 13 = .ok (.return_, 1) := by decide +kernel
theorem dX6_throwDays_0 : decode cX6_throwDays 0 = .ok (.aload_n 0, 1) := by decide +kernel
theorem dX6_throwDays_1 : decode cX6_throwDays 1 = .ok (.iload_n 1, 1) := by decide +kernel
theorem dX6_throwDays_2 : decode cX6_throwDays 2 = .ok (.iload_n 2, 1) := by decide +kernel
theorem dX6_throwDays_3 : decode cX6_throwDays 3 = .ok (.imul, 1) := by decide +kernel
theorem dX6_throwDays_4 : decode cX6_throwDays 4 = .ok (.putfield 13, 3) := by decide +kernel
theorem dX6_throwDays_7 : decode cX6_throwDays 7 = .ok (.aload_n 0, 1) := by decide +kernel
theorem dX6_throwDays_8 : decode cX6_throwDays 8 = .ok (.lconst 1, 1) := by decide +kernel
theorem dX6_throwDays_9 : decode cX6_throwDays 9 = .ok (.putfield 17, 3) := by decide +kernel
theorem dX6_throwDays_12 : decode cX6_throwDays 12 = .ok (.aload_n 0, 1) := by decide +kernel
theorem dX6_throwDays_13 : decode cX6_throwDays 13 = .ok (.getfield 9, 3) := by decide +kernel
theorem dX6_throwDays_16 : decode cX6_throwDays 16 = .ok (.iconst 0, 1) := by decide +kernel
theorem dX6_throwDays_17 : decode cX6_throwDays 17 = .ok (.lconst 1, 1) := by decide +kernel
theorem dX6_throwDays_18 : decode cX6_throwDays 18 = .ok (.lastore, 1) := by decide +kernel
theorem dX6_throwDays_19 : decode cX6_throwDays 19 = .ok (.iconst 1, 1) := by decide +kernel
theorem dX6_throwDays_20 : decode cX6_throwDays 20 = .ok (.istore_n 3, 1) := by decide +kernel
theorem dX6_throwDays_21 : decode cX6_throwDays 21 = .ok (.iload_n 3, 1) := by decide +kernel
theorem dX6_throwDays_22 : decode cX6_throwDays 22 = .ok (.aload_n 0, 1) := by decide +kernel
theorem dX6_throwDays_23 : decode cX6_throwDays 23 = .ok (.getfield 13, 3) := by decide +kernel
theorem dX6_throwDays_26 : decode cX6_throwDays 26 = .ok (.if_icmp .gt 16, 3) := by decide +kernel
theorem dX6_throwDays_29 : decode cX6_throwDays 29 = .ok (.aload_n 0, 1) := by decide +kernel
theorem dX6_throwDays_30 : decode cX6_throwDays 30 = .ok (.getfield 9, 3) := by decide +kernel
theorem dX6_throwDays_33 : decode cX6_throwDays 33 = .ok (.iload_n 3, 1) := by decide +kernel
theorem dX6_throwDays_34 : decode cX6_throwDays 34 = .ok (.lconst 0, 1) := by decide +kernel
theorem dX6_throwDays_35 : decode cX6_throwDays 35 = .ok (.lastore, 1) := by decide +kernel
theorem dX6_throwDays_36 : decode cX6_throwDays 36 = .ok (.iinc 3 1, 3) := by decide +kernel
theorem dX6_throwDays_39 : decode cX6_throwDays 39 = .ok (.goto (-18), 3) := by decide +kernel
theorem dX6_throwDays_42 : decode cX6_throwDays 42 = .ok (.iconst 0, 1) := by decide +kernel
theorem dX6_throwDays_43 : decode cX6_throwDays 43 = .ok (.istore_n 3, 1) := by decide +kernel
theorem dX6_throwDays_44 : decode cX6_throwDays 44 = .ok (.iload_n 3, 1) := by decide +kernel
theorem dX6_throwDays_45 : decode cX6_throwDays 45 = .ok (.iload_n 1, 1) := by decide +kernel
theorem dX6_throwDays_46 : decode cX6_throwDays 46 = .ok (.if_icmp .ge 27, 3) := by decide +kernel
theorem dX6_throwDays_49 : decode cX6_throwDays 49 = .ok (.aload_n 0, 1) := by decide +kernel
theorem dX6_throwDays_50 : decode cX6_throwDays 50 = .ok (.dup, 1) := by decide +kernel
theorem dX6_throwDays_51 : decode cX6_throwDays 51 = .ok (.getfield 17, 3) := by decide +kernel
theorem dX6_throwDays_54 : decode cX6_throwDays 54 = .ok (.iload_n 2, 1) := by decide +kernel
theorem dX6_throwDays_55 : decode cX6_throwDays 55 = .ok (.iconst 1, 1) := by decide +kernel
theorem dX6_throwDays_56 : decode cX6_throwDays 56 = .ok (.iadd, 1) := by decide +kernel
theorem dX6_throwDays_57 : decode cX6_throwDays 57 = .ok (.i2l, 1) := by decide +kernel
theorem dX6_throwDays_58 : decode cX6_throwDays 58 = .ok (.lmul, 1) := by decide +kernel
theorem dX6_throwDays_59 : decode cX6_throwDays 59 = .ok (.putfield 17, 3) := by decide +kernel
theorem dX6_throwDays_62 : decode cX6_throwDays 62 = .ok (.aload_n 0, 1) := by decide +kernel
theorem dX6_throwDays_63 : decode cX6_throwDays 63 = .ok (.iload_n 2, 1) := by decide +kernel
theorem dX6_throwDays_64 : decode cX6_throwDays 64 = .ok (.invokevirtual 21, 3) := by decide +kernel
theorem dX6_throwDays_67 : decode cX6_throwDays 67 = .ok (.iinc 3 1, 3) := by decide +kernel
theorem dX6_throwDays_70 : decode cX6_throwDays 70 = .ok (.goto (-26), 3) := by decide +kernel
theorem dX6_throwDays_73 : decode cX6_throwDays 73 = .ok (.return_, 1) := by decide +kernel
theorem dX6_addDay_0 : decode cX6_addDay 0 = .ok (.lconst 0, 1) := by decide +kernel
theorem dX6_addDay_1 : decode cX6_addDay 1 = .ok (.lstore_n 2, 1) := by decide +kernel
theorem dX6_addDay_2 : decode cX6_addDay 2 = .ok (.iconst 0, 1) := by decide +kernel
theorem dX6_addDay_3 : decode cX6_addDay 3 = .ok (.aload_n 0, 1) := by decide +kernel
theorem dX6_addDay_4 : decode cX6_addDay 4 = .ok (.getfield 13, 3) := by decide +kernel
theorem dX6_addDay_7 : decode cX6_addDay 7 = .ok (.iload_n 1, 1) := by decide +kernel
theorem dX6_addDay_8 : decode cX6_addDay 8 = .ok (.isub, 1) := by decide +kernel
theorem dX6_addDay_9 : decode cX6_addDay 9 = .ok (.invokestatic 25, 3) := by decide +kernel
theorem dX6_addDay_12 : decode cX6_addDay 12 = .ok (.istore 4, 2) := by decide +kernel
theorem dX6_addDay_14 : decode cX6_addDay 14 = .ok (.iload 4, 2) := by decide +kernel
theorem dX6_addDay_16 : decode cX6_addDay 16 = .ok (.aload_n 0, 1) := by decide +kernel
theorem dX6_addDay_17 : decode cX6_addDay 17 = .ok (.getfield 13, 3) := by decide +kernel
theorem dX6_addDay_20 : decode cX6_addDay 20 = .ok (.if_icmp .gt 19, 3) := by decide +kernel
theorem dX6_addDay_23 : decode cX6_addDay 23 = .ok (.lload_n 2, 1) := by decide +kernel
theorem dX6_addDay_24 : decode cX6_addDay 24 = .ok (.aload_n 0, 1) := by decide +kernel
theorem dX6_addDay_25 : decode cX6_addDay 25 = .ok (.getfield 9, 3) := by decide +kernel
theorem dX6_addDay_28 : decode cX6_addDay 28 = .ok (.iload 4, 2) := by decide +kernel
theorem dX6_addDay_30 : decode cX6_addDay 30 = .ok (.laload, 1) := by decide +kernel
theorem dX6_addDay_31 : decode cX6_addDay 31 = .ok (.ladd, 1) := by decide +kernel
theorem dX6_addDay_32 : decode cX6_addDay 32 = .ok (.lstore_n 2, 1) := by decide +kernel
theorem dX6_addDay_33 : decode cX6_addDay 33 = .ok (.iinc 4 1, 3) := by decide +kernel
theorem dX6_addDay_36 : decode cX6_addDay 36 = .ok (.goto (-22), 3) := by decide +kernel
theorem dX6_addDay_39 : decode cX6_addDay 39 = .ok (.aload_n 0, 1) := by decide +kernel
theorem dX6_addDay_40 : decode cX6_addDay 40 = .ok (.getfield 13, 3) := by decide +kernel
theorem dX6_addDay_43 : decode cX6_addDay 43 = .ok (.istore 4, 2) := by decide +kernel
theorem dX6_addDay_45 : decode cX6_addDay 45 = .ok (.iload 4, 2) := by decide +kernel
theorem dX6_addDay_47 : decode cX6_addDay 47 = .ok (.ifCond .lt 56, 3) := by decide +kernel
theorem dX6_addDay_50 : decode cX6_addDay 50 = .ok (.aload_n 0, 1) := by decide +kernel
theorem dX6_addDay_51 : decode cX6_addDay 51 = .ok (.getfield 9, 3) := by decide +kernel
theorem dX6_addDay_54 : decode cX6_addDay 54 = .ok (.iload 4, 2) := by decide +kernel
theorem dX6_addDay_56 : decode cX6_addDay 56 = .ok (.laload, 1) := by decide +kernel
theorem dX6_addDay_57 : decode cX6_addDay 57 = .ok (.lstore 5, 2) := by decide +kernel
theorem dX6_addDay_59 : decode cX6_addDay 59 = .ok (.iload 4, 2) := by decide +kernel
theorem dX6_addDay_61 : decode cX6_addDay 61 = .ok (.iload_n 1, 1) := by decide +kernel
theorem dX6_addDay_62 : decode cX6_addDay 62 = .ok (.isub, 1) := by decide +kernel
theorem dX6_addDay_63 : decode cX6_addDay 63 = .ok (.iconst 1, 1) := by decide +kernel
theorem dX6_addDay_64 : decode cX6_addDay 64 = .ok (.isub, 1) := by decide +kernel
theorem dX6_addDay_65 : decode cX6_addDay 65 = .ok (.istore 7, 2) := by decide +kernel
theorem dX6_addDay_67 : decode cX6_addDay 67 = .ok (.aload_n 0, 1) := by decide +kernel
theorem dX6_addDay_68 : decode cX6_addDay 68 = .ok (.getfield 9, 3) := by decide +kernel
theorem dX6_addDay_71 : decode cX6_addDay 71 = .ok (.iload 4, 2) := by decide +kernel
theorem dX6_addDay_73 : decode cX6_addDay 73 = .ok (.lload_n 2, 1) := by decide +kernel
theorem dX6_addDay_74 : decode cX6_addDay 74 = .ok (.lastore, 1) := by decide +kernel
theorem dX6_addDay_75 : decode cX6_addDay 75 = .ok (.lload_n 2, 1) := by decide +kernel
theorem dX6_addDay_76 : decode cX6_addDay 76 = .ok (.iload 7, 2) := by decide +kernel
theorem dX6_addDay_78 : decode cX6_addDay 78 = .ok (.ifCond .lt 13, 3) := by decide +kernel
theorem dX6_addDay_81 : decode cX6_addDay 81 = .ok (.aload_n 0, 1) := by decide +kernel
theorem dX6_addDay_82 : decode cX6_addDay 82 = .ok (.getfield 9, 3) := by decide +kernel
theorem dX6_addDay_85 : decode cX6_addDay 85 = .ok (.iload 7, 2) := by decide +kernel
theorem dX6_addDay_87 : decode cX6_addDay 87 = .ok (.laload, 1) := by decide +kernel
theorem dX6_addDay_88 : decode cX6_addDay 88 = .ok (.goto 4, 3) := by decide +kernel
theorem dX6_addDay_91 : decode cX6_addDay 91 = .ok (.lconst 0, 1) := by decide +kernel
theorem dX6_addDay_92 : decode cX6_addDay 92 = .ok (.lload 5, 2) := by decide +kernel
theorem dX6_addDay_94 : decode cX6_addDay 94 = .ok (.lsub, 1) := by decide +kernel
theorem dX6_addDay_95 : decode cX6_addDay 95 = .ok (.ladd, 1) := by decide +kernel
theorem dX6_addDay_96 : decode cX6_addDay 96 = .ok (.lstore_n 2, 1) := by decide +kernel
theorem dX6_addDay_97 : decode cX6_addDay 97 = .ok (.iinc 4 (-1), 3) := by decide +kernel
theorem dX6_addDay_100 : decode cX6_addDay 100 = .ok (.goto (-55), 3) := by decide +kernel
theorem dX6_addDay_103 : decode cX6_addDay 103 = .ok (.return_, 1) := by decide +kernel
theorem dX6_atLeast_0 : decode cX6_atLeast 0 = .ok (.lconst 0, 1) := by decide +kernel
theorem dX6_atLeast_1 : decode cX6_atLeast 1 = .ok (.lstore_n 2, 1) := by decide +kernel
theorem dX6_atLeast_2 : decode cX6_atLeast 2 = .ok (.iconst 0, 1) := by decide +kernel
theorem dX6_atLeast_3 : decode cX6_atLeast 3 = .ok (.iload_n 1, 1) := by decide +kernel
theorem dX6_atLeast_4 : decode cX6_atLeast 4 = .ok (.invokestatic 25, 3) := by decide +kernel
theorem dX6_atLeast_7 : decode cX6_atLeast 7 = .ok (.istore 4, 2) := by decide +kernel
theorem dX6_atLeast_9 : decode cX6_atLeast 9 = .ok (.iload 4, 2) := by decide +kernel
theorem dX6_atLeast_11 : decode cX6_atLeast 11 = .ok (.aload_n 0, 1) := by decide +kernel
theorem dX6_atLeast_12 : decode cX6_atLeast 12 = .ok (.getfield 13, 3) := by decide +kernel
theorem dX6_atLeast_15 : decode cX6_atLeast 15 = .ok (.if_icmp .gt 19, 3) := by decide +kernel
theorem dX6_atLeast_18 : decode cX6_atLeast 18 = .ok (.lload_n 2, 1) := by decide +kernel
theorem dX6_atLeast_19 : decode cX6_atLeast 19 = .ok (.aload_n 0, 1) := by decide +kernel
theorem dX6_atLeast_20 : decode cX6_atLeast 20 = .ok (.getfield 9, 3) := by decide +kernel
theorem dX6_atLeast_23 : decode cX6_atLeast 23 = .ok (.iload 4, 2) := by decide +kernel
theorem dX6_atLeast_25 : decode cX6_atLeast 25 = .ok (.laload, 1) := by decide +kernel
theorem dX6_atLeast_26 : decode cX6_atLeast 26 = .ok (.ladd, 1) := by decide +kernel
theorem dX6_atLeast_27 : decode cX6_atLeast 27 = .ok (.lstore_n 2, 1) := by decide +kernel
theorem dX6_atLeast_28 : decode cX6_atLeast 28 = .ok (.iinc 4 1, 3) := by decide +kernel
theorem dX6_atLeast_31 : decode cX6_atLeast 31 = .ok (.goto (-22), 3) := by decide +kernel
theorem dX6_atLeast_34 : decode cX6_atLeast 34 = .ok (.lload_n 2, 1) := by decide +kernel
theorem dX6_atLeast_35 : decode cX6_atLeast 35 = .ok (.lreturn, 1) := by decide +kernel
theorem dX7_init_0 : decode cX7_init 0 = .ok (.aload_n 0, 1) := by decide +kernel
theorem dX7_init_1 : decode cX7_init 1 = .ok (.invokespecial 3, 3) := by decide +kernel
theorem dX7_init_4 : decode cX7_init 4 = .ok (.aload_n 0, 1) := by decide +kernel
theorem dX7_init_5 : decode cX7_init 5 = .ok (.bipush 16, 2) := by decide +kernel
theorem dX7_init_7 : decode cX7_init 7 = .ok (.newarray .int, 2) := by decide +kernel
theorem dX7_init_9 : decode cX7_init 9 = .ok (.putfield 9, 3) := by decide +kernel
theorem dX7_init_12 : decode cX7_init 12 = .ok (.return_, 1) := by decide +kernel
theorem dX7_raise_0 : decode cX7_raise 0 = .ok (.aload_n 0, 1) := by decide +kernel
theorem dX7_raise_1 : decode cX7_raise 1 = .ok (.iload_n 1, 1) := by decide +kernel
theorem dX7_raise_2 : decode cX7_raise 2 = .ok (.putfield 15, 3) := by decide +kernel
theorem dX7_raise_5 : decode cX7_raise 5 = .ok (.aload_n 0, 1) := by decide +kernel
theorem dX7_raise_6 : decode cX7_raise 6 = .ok (.iload_n 2, 1) := by decide +kernel
theorem dX7_raise_7 : decode cX7_raise 7 = .ok (.putfield 19, 3) := by decide +kernel
theorem dX7_raise_10 : decode cX7_raise 10 = .ok (.aload_n 0, 1) := by decide +kernel
theorem dX7_raise_11 : decode cX7_raise 11 = .ok (.iload_n 3, 1) := by decide +kernel
theorem dX7_raise_12 : decode cX7_raise 12 = .ok (.putfield 22, 3) := by decide +kernel
theorem dX7_raise_15 : decode cX7_raise 15 = .ok (.aload_n 0, 1) := by decide +kernel
theorem dX7_raise_16 : decode cX7_raise 16 = .ok (.iload 4, 2) := by decide +kernel
theorem dX7_raise_18 : decode cX7_raise 18 = .ok (.putfield 25, 3) := by decide +kernel
theorem dX7_raise_21 : decode cX7_raise 21 = .ok (.aload_n 0, 1) := by decide +kernel
theorem dX7_raise_22 : decode cX7_raise 22 = .ok (.iload 5, 2) := by decide +kernel
theorem dX7_raise_24 : decode cX7_raise 24 = .ok (.putfield 28, 3) := by decide +kernel
theorem dX7_raise_27 : decode cX7_raise 27 = .ok (.aload_n 0, 1) := by decide +kernel
theorem dX7_raise_28 : decode cX7_raise 28 = .ok (.iload 6, 2) := by decide +kernel
theorem dX7_raise_30 : decode cX7_raise 30 = .ok (.putfield 31, 3) := by decide +kernel
theorem dX7_raise_33 : decode cX7_raise 33 = .ok (.aload_n 0, 1) := by decide +kernel
theorem dX7_raise_34 : decode cX7_raise 34 = .ok (.iconst 0, 1) := by decide +kernel
theorem dX7_raise_35 : decode cX7_raise 35 = .ok (.putfield 34, 3) := by decide +kernel
theorem dX7_raise_38 : decode cX7_raise 38 = .ok (.aload_n 0, 1) := by decide +kernel
theorem dX7_raise_39 : decode cX7_raise 39 = .ok (.iconst 1, 1) := by decide +kernel
theorem dX7_raise_40 : decode cX7_raise 40 = .ok (.putfield 37, 3) := by decide +kernel
theorem dX7_raise_43 : decode cX7_raise 43 = .ok (.iconst 0, 1) := by decide +kernel
theorem dX7_raise_44 : decode cX7_raise 44 = .ok (.istore 7, 2) := by decide +kernel
theorem dX7_raise_46 : decode cX7_raise 46 = .ok (.iload 7, 2) := by decide +kernel
theorem dX7_raise_48 : decode cX7_raise 48 = .ok (.bipush 16, 2) := by decide +kernel
theorem dX7_raise_50 : decode cX7_raise 50 = .ok (.if_icmp .ge 17, 3) := by decide +kernel
theorem dX7_raise_53 : decode cX7_raise 53 = .ok (.aload_n 0, 1) := by decide +kernel
theorem dX7_raise_54 : decode cX7_raise 54 = .ok (.getfield 9, 3) := by decide +kernel
theorem dX7_raise_57 : decode cX7_raise 57 = .ok (.iload 7, 2) := by decide +kernel
theorem dX7_raise_59 : decode cX7_raise 59 = .ok (.iconst 0, 1) := by decide +kernel
theorem dX7_raise_60 : decode cX7_raise 60 = .ok (.iastore, 1) := by decide +kernel
theorem dX7_raise_61 : decode cX7_raise 61 = .ok (.iinc 7 1, 3) := by decide +kernel
theorem dX7_raise_64 : decode cX7_raise 64 = .ok (.goto (-18), 3) := by decide +kernel
theorem dX7_raise_67 : decode cX7_raise 67 = .ok (.return_, 1) := by decide +kernel
theorem dX7_copyFrom_0 : decode cX7_copyFrom 0 = .ok (.aload_n 0, 1) := by decide +kernel
theorem dX7_copyFrom_1 : decode cX7_copyFrom 1 = .ok (.aload_n 1, 1) := by decide +kernel
theorem dX7_copyFrom_2 : decode cX7_copyFrom 2 = .ok (.getfield 15, 3) := by decide +kernel
theorem dX7_copyFrom_5 : decode cX7_copyFrom 5 = .ok (.putfield 15, 3) := by decide +kernel
theorem dX7_copyFrom_8 : decode cX7_copyFrom 8 = .ok (.aload_n 0, 1) := by decide +kernel
theorem dX7_copyFrom_9 : decode cX7_copyFrom 9 = .ok (.aload_n 1, 1) := by decide +kernel
theorem dX7_copyFrom_10 : decode cX7_copyFrom 10 = .ok (.getfield 19, 3) := by decide +kernel
theorem dX7_copyFrom_13 : decode cX7_copyFrom 13 = .ok (.putfield 19, 3) := by decide +kernel
theorem dX7_copyFrom_16 : decode cX7_copyFrom 16 = .ok (.aload_n 0, 1) := by decide +kernel
theorem dX7_copyFrom_17 : decode cX7_copyFrom 17 = .ok (.aload_n 1, 1) := by decide +kernel
theorem dX7_copyFrom_18 : decode cX7_copyFrom 18 = .ok (.getfield 22, 3) := by decide +kernel
theorem dX7_copyFrom_21 : decode cX7_copyFrom 21 = .ok (.putfield 22, 3) := by decide +kernel
theorem dX7_copyFrom_24 : decode cX7_copyFrom 24 = .ok (.aload_n 0, 1) := by decide +kernel
theorem dX7_copyFrom_25 : decode cX7_copyFrom 25 = .ok (.aload_n 1, 1) := by decide +kernel
theorem dX7_copyFrom_26 : decode cX7_copyFrom 26 = .ok (.getfield 25, 3) := by decide +kernel
theorem dX7_copyFrom_29 : decode cX7_copyFrom 29 = .ok (.putfield 25, 3) := by decide +kernel
theorem dX7_copyFrom_32 : decode cX7_copyFrom 32 = .ok (.aload_n 0, 1) := by decide +kernel
theorem dX7_copyFrom_33 : decode cX7_copyFrom 33 = .ok (.aload_n 1, 1) := by decide +kernel
theorem dX7_copyFrom_34 : decode cX7_copyFrom 34 = .ok (.getfield 28, 3) := by decide +kernel
theorem dX7_copyFrom_37 : decode cX7_copyFrom 37 = .ok (.putfield 28, 3) := by decide +kernel
theorem dX7_copyFrom_40 : decode cX7_copyFrom 40 = .ok (.aload_n 0, 1) := by decide +kernel
theorem dX7_copyFrom_41 : decode cX7_copyFrom 41 = .ok (.aload_n 1, 1) := by decide +kernel
theorem dX7_copyFrom_42 : decode cX7_copyFrom 42 = .ok (.getfield 31, 3) := by decide +kernel
theorem dX7_copyFrom_45 : decode cX7_copyFrom 45 = .ok (.putfield 31, 3) := by decide +kernel
theorem dX7_copyFrom_48 : decode cX7_copyFrom 48 = .ok (.aload_n 0, 1) := by decide +kernel
theorem dX7_copyFrom_49 : decode cX7_copyFrom 49 = .ok (.aload_n 1, 1) := by decide +kernel
theorem dX7_copyFrom_50 : decode cX7_copyFrom 50 = .ok (.getfield 34, 3) := by decide +kernel
theorem dX7_copyFrom_53 : decode cX7_copyFrom 53 = .ok (.putfield 34, 3) := by decide +kernel
theorem dX7_copyFrom_56 : decode cX7_copyFrom 56 = .ok (.aload_n 0, 1) := by decide +kernel
theorem dX7_copyFrom_57 : decode cX7_copyFrom 57 = .ok (.aload_n 1, 1) := by decide +kernel
theorem dX7_copyFrom_58 : decode cX7_copyFrom 58 = .ok (.getfield 37, 3) := by decide +kernel
theorem dX7_copyFrom_61 : decode cX7_copyFrom 61 = .ok (.putfield 37, 3) := by decide +kernel
theorem dX7_copyFrom_64 : decode cX7_copyFrom 64 = .ok (.iconst 0, 1) := by decide +kernel
theorem dX7_copyFrom_65 : decode cX7_copyFrom 65 = .ok (.istore_n 2, 1) := by decide +kernel
theorem dX7_copyFrom_66 : decode cX7_copyFrom 66 = .ok (.iload_n 2, 1) := by decide +kernel
theorem dX7_copyFrom_67 : decode cX7_copyFrom 67 = .ok (.bipush 16, 2) := by decide +kernel
theorem dX7_copyFrom_69 : decode cX7_copyFrom 69 = .ok (.if_icmp .ge 21, 3) := by decide +kernel
theorem dX7_copyFrom_72 : decode cX7_copyFrom 72 = .ok (.aload_n 0, 1) := by decide +kernel
theorem dX7_copyFrom_73 : decode cX7_copyFrom 73 = .ok (.getfield 9, 3) := by decide +kernel
theorem dX7_copyFrom_76 : decode cX7_copyFrom 76 = .ok (.iload_n 2, 1) := by decide +kernel
theorem dX7_copyFrom_77 : decode cX7_copyFrom 77 = .ok (.aload_n 1, 1) := by decide +kernel
theorem dX7_copyFrom_78 : decode cX7_copyFrom 78 = .ok (.getfield 9, 3) := by decide +kernel
theorem dX7_copyFrom_81 : decode cX7_copyFrom 81 = .ok (.iload_n 2, 1) := by decide +kernel
theorem dX7_copyFrom_82 : decode cX7_copyFrom 82 = .ok (.iaload, 1) := by decide +kernel
theorem dX7_copyFrom_83 : decode cX7_copyFrom 83 = .ok (.iastore, 1) := by decide +kernel
theorem dX7_copyFrom_84 : decode cX7_copyFrom 84 = .ok (.iinc 2 1, 3) := by decide +kernel
theorem dX7_copyFrom_87 : decode cX7_copyFrom 87 = .ok (.goto (-21), 3) := by decide +kernel
theorem dX7_copyFrom_90 : decode cX7_copyFrom 90 = .ok (.return_, 1) := by decide +kernel
theorem dX7_addClover_0 : decode cX7_addClover 0 = .ok (.aload_n 0, 1) := by decide +kernel
theorem dX7_addClover_1 : decode cX7_addClover 1 = .ok (.bipush 99, 2) := by decide +kernel
theorem dX7_addClover_3 : decode cX7_addClover 3 = .ok (.aload_n 0, 1) := by decide +kernel
theorem dX7_addClover_4 : decode cX7_addClover 4 = .ok (.getfield 28, 3) := by decide +kernel
theorem dX7_addClover_7 : decode cX7_addClover 7 = .ok (.iload_n 1, 1) := by decide +kernel
theorem dX7_addClover_8 : decode cX7_addClover 8 = .ok (.iadd, 1) := by decide +kernel
theorem dX7_addClover_9 : decode cX7_addClover 9 = .ok (.invokestatic 41, 3) := by decide +kernel
theorem dX7_addClover_12 : decode cX7_addClover 12 = .ok (.putfield 28, 3) := by decide +kernel
theorem dX7_addClover_15 : decode cX7_addClover 15 = .ok (.return_, 1) := by decide +kernel
theorem dX7_vanish_0 : decode cX7_vanish 0 = .ok (.aload_n 0, 1) := by decide +kernel
theorem dX7_vanish_1 : decode cX7_vanish 1 = .ok (.iconst 0, 1) := by decide +kernel
theorem dX7_vanish_2 : decode cX7_vanish 2 = .ok (.putfield 37, 3) := by decide +kernel
theorem dX7_vanish_5 : decode cX7_vanish 5 = .ok (.aload_n 0, 1) := by decide +kernel
theorem dX7_vanish_6 : decode cX7_vanish 6 = .ok (.iconst 0, 1) := by decide +kernel
theorem dX7_vanish_7 : decode cX7_vanish 7 = .ok (.putfield 25, 3) := by decide +kernel
theorem dX7_vanish_10 : decode cX7_vanish 10 = .ok (.return_, 1) := by decide +kernel
theorem dX7_canJoin_0 : decode cX7_canJoin 0 = .ok (.aload_n 0, 1) := by decide +kernel
theorem dX7_canJoin_1 : decode cX7_canJoin 1 = .ok (.getfield 37, 3) := by decide +kernel
theorem dX7_canJoin_4 : decode cX7_canJoin 4 = .ok (.ifCond .eq 54, 3) := by decide +kernel
theorem dX7_canJoin_7 : decode cX7_canJoin 7 = .ok (.aload_n 1, 1) := by decide +kernel
theorem dX7_canJoin_8 : decode cX7_canJoin 8 = .ok (.getfield 37, 3) := by decide +kernel
theorem dX7_canJoin_11 : decode cX7_canJoin 11 = .ok (.ifCond .eq 47, 3) := by decide +kernel
theorem dX7_canJoin_14 : decode cX7_canJoin 14 = .ok (.aload_n 0, 1) := by decide +kernel
theorem dX7_canJoin_15 : decode cX7_canJoin 15 = .ok (.getfield 22, 3) := by decide +kernel
theorem dX7_canJoin_18 : decode cX7_canJoin 18 = .ok (.aload_n 1, 1) := by decide +kernel
theorem dX7_canJoin_19 : decode cX7_canJoin 19 = .ok (.getfield 22, 3) := by decide +kernel
theorem dX7_canJoin_22 : decode cX7_canJoin 22 = .ok (.if_icmp .ne 36, 3) := by decide +kernel
theorem dX7_canJoin_25 : decode cX7_canJoin 25 = .ok (.aload_n 0, 1) := by decide +kernel
theorem dX7_canJoin_26 : decode cX7_canJoin 26 = .ok (.getfield 15, 3) := by decide +kernel
theorem dX7_canJoin_29 : decode cX7_canJoin 29 = .ok (.aload_n 1, 1) := by decide +kernel
theorem dX7_canJoin_30 : decode cX7_canJoin 30 = .ok (.getfield 15, 3) := by decide +kernel
theorem dX7_canJoin_33 : decode cX7_canJoin 33 = .ok (.isub, 1) := by decide +kernel
theorem dX7_canJoin_34 : decode cX7_canJoin 34 = .ok (.invokestatic 47, 3) := by decide +kernel
theorem dX7_canJoin_37 : decode cX7_canJoin 37 = .ok (.aload_n 0, 1) := by decide +kernel
theorem dX7_canJoin_38 : decode cX7_canJoin 38 = .ok (.getfield 19, 3) := by decide +kernel
theorem dX7_canJoin_41 : decode cX7_canJoin 41 = .ok (.aload_n 1, 1) := by decide +kernel
theorem dX7_canJoin_42 : decode cX7_canJoin 42 = .ok (.getfield 19, 3) := by decide +kernel
theorem dX7_canJoin_45 : decode cX7_canJoin 45 = .ok (.isub, 1) := by decide +kernel
theorem dX7_canJoin_46 : decode cX7_canJoin 46 = .ok (.invokestatic 47, 3) := by decide +kernel
theorem dX7_canJoin_49 : decode cX7_canJoin 49 = .ok (.iadd, 1) := by decide +kernel
theorem dX7_canJoin_50 : decode cX7_canJoin 50 = .ok (.iload_n 2, 1) := by decide +kernel
theorem dX7_canJoin_51 : decode cX7_canJoin 51 = .ok (.if_icmp .gt 7, 3) := by decide +kernel
theorem dX7_canJoin_54 : decode cX7_canJoin 54 = .ok (.iconst 1, 1) := by decide +kernel
theorem dX7_canJoin_55 : decode cX7_canJoin 55 = .ok (.goto 4, 3) := by decide +kernel
theorem dX7_canJoin_58 : decode cX7_canJoin 58 = .ok (.iconst 0, 1) := by decide +kernel
theorem dX7_canJoin_59 : decode cX7_canJoin 59 = .ok (.ireturn, 1) := by decide +kernel
theorem dX7_takeIn_0 : decode cX7_takeIn 0 = .ok (.aload_n 0, 1) := by decide +kernel
theorem dX7_takeIn_1 : decode cX7_takeIn 1 = .ok (.dup, 1) := by decide +kernel
theorem dX7_takeIn_2 : decode cX7_takeIn 2 = .ok (.getfield 25, 3) := by decide +kernel
theorem dX7_takeIn_5 : decode cX7_takeIn 5 = .ok (.aload_n 1, 1) := by decide +kernel
theorem dX7_takeIn_6 : decode cX7_takeIn 6 = .ok (.getfield 25, 3) := by decide +kernel
theorem dX7_takeIn_9 : decode cX7_takeIn 9 = .ok (.iadd, 1) := by decide +kernel
theorem dX7_takeIn_10 : decode cX7_takeIn 10 = .ok (.putfield 25, 3) := by decide +kernel
theorem dX7_takeIn_13 : decode cX7_takeIn 13 = .ok (.aload_n 0, 1) := by decide +kernel
theorem dX7_takeIn_14 : decode cX7_takeIn 14 = .ok (.aload_n 1, 1) := by decide +kernel
theorem dX7_takeIn_15 : decode cX7_takeIn 15 = .ok (.getfield 28, 3) := by decide +kernel
theorem dX7_takeIn_18 : decode cX7_takeIn 18 = .ok (.invokevirtual 51, 3) := by decide +kernel
theorem dX7_takeIn_21 : decode cX7_takeIn 21 = .ok (.aload_n 0, 1) := by decide +kernel
theorem dX7_takeIn_22 : decode cX7_takeIn 22 = .ok (.aload_n 0, 1) := by decide +kernel
theorem dX7_takeIn_23 : decode cX7_takeIn 23 = .ok (.getfield 31, 3) := by decide +kernel
theorem dX7_takeIn_26 : decode cX7_takeIn 26 = .ok (.aload_n 1, 1) := by decide +kernel
theorem dX7_takeIn_27 : decode cX7_takeIn 27 = .ok (.getfield 31, 3) := by decide +kernel
theorem dX7_takeIn_30 : decode cX7_takeIn 30 = .ok (.invokestatic 55, 3) := by decide +kernel
theorem dX7_takeIn_33 : decode cX7_takeIn 33 = .ok (.putfield 31, 3) := by decide +kernel
theorem dX7_takeIn_36 : decode cX7_takeIn 36 = .ok (.aload_n 0, 1) := by decide +kernel
theorem dX7_takeIn_37 : decode cX7_takeIn 37 = .ok (.aload_n 0, 1) := by decide +kernel
theorem dX7_takeIn_38 : decode cX7_takeIn 38 = .ok (.getfield 34, 3) := by decide +kernel
theorem dX7_takeIn_41 : decode cX7_takeIn 41 = .ok (.aload_n 1, 1) := by decide +kernel
theorem dX7_takeIn_42 : decode cX7_takeIn 42 = .ok (.getfield 34, 3) := by decide +kernel
theorem dX7_takeIn_45 : decode cX7_takeIn 45 = .ok (.invokestatic 55, 3) := by decide +kernel
theorem dX7_takeIn_48 : decode cX7_takeIn 48 = .ok (.putfield 34, 3) := by decide +kernel
theorem dX7_takeIn_51 : decode cX7_takeIn 51 = .ok (.aload_n 1, 1) := by decide +kernel
theorem dX7_takeIn_52 : decode cX7_takeIn 52 = .ok (.invokevirtual 58, 3) := by decide +kernel
theorem dX7_takeIn_55 : decode cX7_takeIn 55 = .ok (.return_, 1) := by decide +kernel
theorem dX8_sum_0 : decode cX8_sum 0 = .ok (.aload_n 0, 1) := by decide +kernel
theorem dX8_sum_1 : decode cX8_sum 1 = .ok (.getfield 9, 3) := by decide +kernel
theorem dX8_sum_4 : decode cX8_sum 4 = .ok (.iload_n 1, 1) := by decide +kernel
theorem dX8_sum_5 : decode cX8_sum 5 = .ok (.aaload, 1) := by decide +kernel
theorem dX8_sum_6 : decode cX8_sum 6 = .ok (.getfield 15, 3) := by decide +kernel
theorem dX8_sum_9 : decode cX8_sum 9 = .ok (.istore_n 3, 1) := by decide +kernel
theorem dX8_sum_10 : decode cX8_sum 10 = .ok (.aload_n 0, 1) := by decide +kernel
theorem dX8_sum_11 : decode cX8_sum 11 = .ok (.invokestatic 21, 3) := by decide +kernel
theorem dX8_sum_14 : decode cX8_sum 14 = .ok (.istore 4, 2) := by decide +kernel
theorem dX8_sum_16 : decode cX8_sum 16 = .ok (.aload_n 0, 1) := by decide +kernel
theorem dX8_sum_17 : decode cX8_sum 17 = .ok (.getfield 27, 3) := by decide +kernel
theorem dX8_sum_20 : decode cX8_sum 20 = .ok (.bipush 8, 2) := by decide +kernel
theorem dX8_sum_22 : decode cX8_sum 22 = .ok (.iload 4, 2) := by decide +kernel
theorem dX8_sum_24 : decode cX8_sum 24 = .ok (.imul, 1) := by decide +kernel
theorem dX8_sum_25 : decode cX8_sum 25 = .ok (.iadd, 1) := by decide +kernel
theorem dX8_sum_26 : decode cX8_sum 26 = .ok (.istore 5, 2) := by decide +kernel
theorem dX8_sum_28 : decode cX8_sum 28 = .ok (.iload_n 3, 1) := by decide +kernel
theorem dX8_sum_29 : decode cX8_sum 29 = .ok (.iconst 1, 1) := by decide +kernel
theorem dX8_sum_30 : decode cX8_sum 30 = .ok (.if_icmp .ne 8, 3) := by decide +kernel
theorem dX8_sum_33 : decode cX8_sum 33 = .ok (.iload 4, 2) := by decide +kernel
theorem dX8_sum_35 : decode cX8_sum 35 = .ok (.goto 7, 3) := by decide +kernel
theorem dX8_sum_38 : decode cX8_sum 38 = .ok (.iload 4, 2) := by decide +kernel
theorem dX8_sum_40 : decode cX8_sum 40 = .ok (.iconst 1, 1) := by decide +kernel
theorem dX8_sum_41 : decode cX8_sum 41 = .ok (.isub, 1) := by decide +kernel
theorem dX8_sum_42 : decode cX8_sum 42 = .ok (.istore 6, 2) := by decide +kernel
theorem dX8_sum_44 : decode cX8_sum 44 = .ok (.aload_n 0, 1) := by decide +kernel
theorem dX8_sum_45 : decode cX8_sum 45 = .ok (.getfield 27, 3) := by decide +kernel
theorem dX8_sum_48 : decode cX8_sum 48 = .ok (.iconst 1, 1) := by decide +kernel
theorem dX8_sum_49 : decode cX8_sum 49 = .ok (.isub, 1) := by decide +kernel
theorem dX8_sum_50 : decode cX8_sum 50 = .ok (.istore 7, 2) := by decide +kernel
theorem dX8_sum_52 : decode cX8_sum 52 = .ok (.lconst 0, 1) := by decide +kernel
theorem dX8_sum_53 : decode cX8_sum 53 = .ok (.lstore 8, 2) := by decide +kernel
theorem dX8_sum_55 : decode cX8_sum 55 = .ok (.iconst 0, 1) := by decide +kernel
theorem dX8_sum_56 : decode cX8_sum 56 = .ok (.istore 10, 2) := by decide +kernel
theorem dX8_sum_58 : decode cX8_sum 58 = .ok (.iload 10, 2) := by decide +kernel
theorem dX8_sum_60 : decode cX8_sum 60 = .ok (.iload 6, 2) := by decide +kernel
theorem dX8_sum_62 : decode cX8_sum 62 = .ok (.if_icmp .gt 115, 3) := by decide +kernel
theorem dX8_sum_65 : decode cX8_sum 65 = .ok (.iconst 0, 1) := by decide +kernel
theorem dX8_sum_66 : decode cX8_sum 66 = .ok (.istore 11, 2) := by decide +kernel
theorem dX8_sum_68 : decode cX8_sum 68 = .ok (.iload 11, 2) := by decide +kernel
theorem dX8_sum_70 : decode cX8_sum 70 = .ok (.iload 7, 2) := by decide +kernel
theorem dX8_sum_72 : decode cX8_sum 72 = .ok (.iload 6, 2) := by decide +kernel
theorem dX8_sum_74 : decode cX8_sum 74 = .ok (.isub, 1) := by decide +kernel
theorem dX8_sum_75 : decode cX8_sum 75 = .ok (.if_icmp .gt 96, 3) := by decide +kernel
theorem dX8_sum_78 : decode cX8_sum 78 = .ok (.bipush 9, 2) := by decide +kernel
theorem dX8_sum_80 : decode cX8_sum 80 = .ok (.iload 10, 2) := by decide +kernel
theorem dX8_sum_82 : decode cX8_sum 82 = .ok (.imul, 1) := by decide +kernel
theorem dX8_sum_83 : decode cX8_sum 83 = .ok (.iload 11, 2) := by decide +kernel
theorem dX8_sum_85 : decode cX8_sum 85 = .ok (.iadd, 1) := by decide +kernel
theorem dX8_sum_86 : decode cX8_sum 86 = .ok (.istore 12, 2) := by decide +kernel
theorem dX8_sum_88 : decode cX8_sum 88 = .ok (.iconst 2, 1) := by decide +kernel
theorem dX8_sum_89 : decode cX8_sum 89 = .ok (.iload 12, 2) := by decide +kernel
theorem dX8_sum_91 : decode cX8_sum 91 = .ok (.imul, 1) := by decide +kernel
theorem dX8_sum_92 : decode cX8_sum 92 = .ok (.iload 5, 2) := by decide +kernel
theorem dX8_sum_94 : decode cX8_sum 94 = .ok (.if_icmp .gt 71, 3) := by decide +kernel
theorem dX8_sum_97 : decode cX8_sum 97 = .ok (.iconst 2, 1) := by decide +kernel
theorem dX8_sum_98 : decode cX8_sum 98 = .ok (.iload 12, 2) := by decide +kernel
theorem dX8_sum_100 : decode cX8_sum 100 = .ok (.iload_n 3, 1) := by decide +kernel
theorem dX8_sum_101 : decode cX8_sum 101 = .ok (.iadd, 1) := by decide +kernel
theorem dX8_sum_102 : decode cX8_sum 102 = .ok (.imul, 1) := by decide +kernel
theorem dX8_sum_103 : decode cX8_sum 103 = .ok (.iload 5, 2) := by decide +kernel
theorem dX8_sum_105 : decode cX8_sum 105 = .ok (.if_icmp .le 60, 3) := by decide +kernel
theorem dX8_sum_108 : decode cX8_sum 108 = .ok (.iload 6, 2) := by decide +kernel
theorem dX8_sum_110 : decode cX8_sum 110 = .ok (.iload 10, 2) := by decide +kernel
theorem dX8_sum_112 : decode cX8_sum 112 = .ok (.invokestatic 30, 3) := by decide +kernel
theorem dX8_sum_115 : decode cX8_sum 115 = .ok (.iload 7, 2) := by decide +kernel
theorem dX8_sum_117 : decode cX8_sum 117 = .ok (.iload 6, 2) := by decide +kernel
theorem dX8_sum_119 : decode cX8_sum 119 = .ok (.isub, 1) := by decide +kernel
theorem dX8_sum_120 : decode cX8_sum 120 = .ok (.iload 11, 2) := by decide +kernel
theorem dX8_sum_122 : decode cX8_sum 122 = .ok (.invokestatic 30, 3) := by decide +kernel
theorem dX8_sum_125 : decode cX8_sum 125 = .ok (.lmul, 1) := by decide +kernel
theorem dX8_sum_126 : decode cX8_sum 126 = .ok (.lstore 13, 2) := by decide +kernel
theorem dX8_sum_128 : decode cX8_sum 128 = .ok (.lload 8, 2) := by decide +kernel
theorem dX8_sum_130 : decode cX8_sum 130 = .ok (.iload_n 2, 1) := by decide +kernel
theorem dX8_sum_131 : decode cX8_sum 131 = .ok (.ifCond .eq 29, 3) := by decide +kernel
theorem dX8_sum_134 : decode cX8_sum 134 = .ok (.lload 13, 2) := by decide +kernel
theorem dX8_sum_136 : decode cX8_sum 136 = .ok (.iload 10, 2) := by decide +kernel
theorem dX8_sum_138 : decode cX8_sum 138 = .ok (.iload 11, 2) := by decide +kernel
theorem dX8_sum_140 : decode cX8_sum 140 = .ok (.iadd, 1) := by decide +kernel
theorem dX8_sum_141 : decode cX8_sum 141 = .ok (.invokestatic 34, 3) := by decide +kernel
theorem dX8_sum_144 : decode cX8_sum 144 = .ok (.lmul, 1) := by decide +kernel
theorem dX8_sum_145 : decode cX8_sum 145 = .ok (.iload 7, 2) := by decide +kernel
theorem dX8_sum_147 : decode cX8_sum 147 = .ok (.iload 10, 2) := by decide +kernel
theorem dX8_sum_149 : decode cX8_sum 149 = .ok (.isub, 1) := by decide +kernel
theorem dX8_sum_150 : decode cX8_sum 150 = .ok (.iload 11, 2) := by decide +kernel
theorem dX8_sum_152 : decode cX8_sum 152 = .ok (.isub, 1) := by decide +kernel
theorem dX8_sum_153 : decode cX8_sum 153 = .ok (.invokestatic 34, 3) := by decide +kernel
theorem dX8_sum_156 : decode cX8_sum 156 = .ok (.lmul, 1) := by decide +kernel
theorem dX8_sum_157 : decode cX8_sum 157 = .ok (.goto 5, 3) := by decide +kernel
theorem dX8_sum_160 : decode cX8_sum 160 = .ok (.lload 13, 2) := by decide +kernel
theorem dX8_sum_162 : decode cX8_sum 162 = .ok (.ladd, 1) := by decide +kernel
theorem dX8_sum_163 : decode cX8_sum 163 = .ok (.lstore 8, 2) := by decide +kernel
theorem dX8_sum_165 : decode cX8_sum 165 = .ok (.iinc 11 1, 3) := by decide +kernel
theorem dX8_sum_168 : decode cX8_sum 168 = .ok (.goto (-100), 3) := by decide +kernel
theorem dX8_sum_171 : decode cX8_sum 171 = .ok (.iinc 10 1, 3) := by decide +kernel
theorem dX8_sum_174 : decode cX8_sum 174 = .ok (.goto (-116), 3) := by decide +kernel
theorem dX8_sum_177 : decode cX8_sum 177 = .ok (.lload 8, 2) := by decide +kernel
theorem dX8_sum_179 : decode cX8_sum 179 = .ok (.lreturn, 1) := by decide +kernel
theorem dX8_bullCount_0 : decode cX8_bullCount 0 = .ok (.iconst 0, 1) := by decide +kernel
theorem dX8_bullCount_1 : decode cX8_bullCount 1 = .ok (.istore_n 1, 1) := by decide +kernel
theorem dX8_bullCount_2 : decode cX8_bullCount 2 = .ok (.iconst 0, 1) := by decide +kernel
theorem dX8_bullCount_3 : decode cX8_bullCount 3 = .ok (.istore_n 2, 1) := by decide +kernel
theorem dX8_bullCount_4 : decode cX8_bullCount 4 = .ok (.iload_n 2, 1) := by decide +kernel
theorem dX8_bullCount_5 : decode cX8_bullCount 5 = .ok (.aload_n 0, 1) := by decide +kernel
theorem dX8_bullCount_6 : decode cX8_bullCount 6 = .ok (.getfield 27, 3) := by decide +kernel
theorem dX8_bullCount_9 : decode cX8_bullCount 9 = .ok (.if_icmp .ge 31, 3) := by decide +kernel
theorem dX8_bullCount_12 : decode cX8_bullCount 12 = .ok (.iload_n 1, 1) := by decide +kernel
theorem dX8_bullCount_13 : decode cX8_bullCount 13 = .ok (.aload_n 0, 1) := by decide +kernel
theorem dX8_bullCount_14 : decode cX8_bullCount 14 = .ok (.getfield 9, 3) := by decide +kernel
theorem dX8_bullCount_17 : decode cX8_bullCount 17 = .ok (.iload_n 2, 1) := by decide +kernel
theorem dX8_bullCount_18 : decode cX8_bullCount 18 = .ok (.aaload, 1) := by decide +kernel
theorem dX8_bullCount_19 : decode cX8_bullCount 19 = .ok (.getfield 15, 3) := by decide +kernel
theorem dX8_bullCount_22 : decode cX8_bullCount 22 = .ok (.bipush 9, 2) := by decide +kernel
theorem dX8_bullCount_24 : decode cX8_bullCount 24 = .ok (.if_icmp .ne 7, 3) := by decide +kernel
theorem dX8_bullCount_27 : decode cX8_bullCount 27 = .ok (.iconst 1, 1) := by decide +kernel
theorem dX8_bullCount_28 : decode cX8_bullCount 28 = .ok (.goto 4, 3) := by decide +kernel
theorem dX8_bullCount_31 : decode cX8_bullCount 31 = .ok (.iconst 0, 1) := by decide +kernel
theorem dX8_bullCount_32 : decode cX8_bullCount 32 = .ok (.iadd, 1) := by decide +kernel
theorem dX8_bullCount_33 : decode cX8_bullCount 33 = .ok (.istore_n 1, 1) := by decide +kernel
theorem dX8_bullCount_34 : decode cX8_bullCount 34 = .ok (.iinc 2 1, 3) := by decide +kernel
theorem dX8_bullCount_37 : decode cX8_bullCount 37 = .ok (.goto (-33), 3) := by decide +kernel
theorem dX8_bullCount_40 : decode cX8_bullCount 40 = .ok (.iload_n 1, 1) := by decide +kernel
theorem dX8_bullCount_41 : decode cX8_bullCount 41 = .ok (.ireturn, 1) := by decide +kernel
theorem dX8_factorial_0 : decode cX8_factorial 0 = .ok (.lconst 1, 1) := by decide +kernel
theorem dX8_factorial_1 : decode cX8_factorial 1 = .ok (.lstore_n 1, 1) := by decide +kernel
theorem dX8_factorial_2 : decode cX8_factorial 2 = .ok (.iconst 2, 1) := by decide +kernel
theorem dX8_factorial_3 : decode cX8_factorial 3 = .ok (.istore_n 3, 1) := by decide +kernel
theorem dX8_factorial_4 : decode cX8_factorial 4 = .ok (.iload_n 3, 1) := by decide +kernel
theorem dX8_factorial_5 : decode cX8_factorial 5 = .ok (.iload_n 0, 1) := by decide +kernel
theorem dX8_factorial_6 : decode cX8_factorial 6 = .ok (.if_icmp .gt 14, 3) := by decide +kernel
theorem dX8_factorial_9 : decode cX8_factorial 9 = .ok (.lload_n 1, 1) := by decide +kernel
theorem dX8_factorial_10 : decode cX8_factorial 10 = .ok (.iload_n 3, 1) := by decide +kernel
theorem dX8_factorial_11 : decode cX8_factorial 11 = .ok (.i2l, 1) := by decide +kernel
theorem dX8_factorial_12 : decode cX8_factorial 12 = .ok (.lmul, 1) := by decide +kernel
theorem dX8_factorial_13 : decode cX8_factorial 13 = .ok (.lstore_n 1, 1) := by decide +kernel
theorem dX8_factorial_14 : decode cX8_factorial 14 = .ok (.iinc 3 1, 3) := by decide +kernel
theorem dX8_factorial_17 : decode cX8_factorial 17 = .ok (.goto (-13), 3) := by decide +kernel
theorem dX8_factorial_20 : decode cX8_factorial 20 = .ok (.lload_n 1, 1) := by decide +kernel
theorem dX8_factorial_21 : decode cX8_factorial 21 = .ok (.lreturn, 1) := by decide +kernel
theorem dX8_choose_0 : decode cX8_choose 0 = .ok (.lconst 1, 1) := by decide +kernel
theorem dX8_choose_1 : decode cX8_choose 1 = .ok (.lstore_n 2, 1) := by decide +kernel
theorem dX8_choose_2 : decode cX8_choose 2 = .ok (.iconst 1, 1) := by decide +kernel
theorem dX8_choose_3 : decode cX8_choose 3 = .ok (.istore 4, 2) := by decide +kernel
theorem dX8_choose_5 : decode cX8_choose 5 = .ok (.iload 4, 2) := by decide +kernel
theorem dX8_choose_7 : decode cX8_choose 7 = .ok (.iload_n 1, 1) := by decide +kernel
theorem dX8_choose_8 : decode cX8_choose 8 = .ok (.if_icmp .gt 23, 3) := by decide +kernel
theorem dX8_choose_11 : decode cX8_choose 11 = .ok (.lload_n 2, 1) := by decide +kernel
theorem dX8_choose_12 : decode cX8_choose 12 = .ok (.iload_n 0, 1) := by decide +kernel
theorem dX8_choose_13 : decode cX8_choose 13 = .ok (.iload_n 1, 1) := by decide +kernel
theorem dX8_choose_14 : decode cX8_choose 14 = .ok (.isub, 1) := by decide +kernel
theorem dX8_choose_15 : decode cX8_choose 15 = .ok (.iload 4, 2) := by decide +kernel
theorem dX8_choose_17 : decode cX8_choose 17 = .ok (.iadd, 1) := by decide +kernel
theorem dX8_choose_18 : decode cX8_choose 18 = .ok (.i2l, 1) := by decide +kernel
theorem dX8_choose_19 : decode cX8_choose 19 = .ok (.lmul, 1) := by decide +kernel
theorem dX8_choose_20 : decode cX8_choose 20 = .ok (.iload 4, 2) := by decide +kernel
theorem dX8_choose_22 : decode cX8_choose 22 = .ok (.i2l, 1) := by decide +kernel
theorem dX8_choose_23 : decode cX8_choose 23 = .ok (.ldiv, 1) := by decide +kernel
theorem dX8_choose_24 : decode cX8_choose 24 = .ok (.lstore_n 2, 1) := by decide +kernel
theorem dX8_choose_25 : decode cX8_choose 25 = .ok (.iinc 4 1, 3) := by decide +kernel
theorem dX8_choose_28 : decode cX8_choose 28 = .ok (.goto (-23), 3) := by decide +kernel
theorem dX8_choose_31 : decode cX8_choose 31 = .ok (.lload_n 2, 1) := by decide +kernel
theorem dX8_choose_32 : decode cX8_choose 32 = .ok (.lreturn, 1) := by decide +kernel
theorem dX9_init_0 : decode cX9_init 0 = .ok (.aload_n 0, 1) := by decide +kernel
theorem dX9_init_1 : decode cX9_init 1 = .ok (.invokespecial 3, 3) := by decide +kernel
theorem dX9_init_4 : decode cX9_init 4 = .ok (.aload_n 0, 1) := by decide +kernel
theorem dX9_init_5 : decode cX9_init 5 = .ok (.sipush 220, 3) := by decide +kernel
theorem dX9_init_8 : decode cX9_init 8 = .ok (.newarray .int, 2) := by decide +kernel
theorem dX9_init_10 : decode cX9_init 10 = .ok (.putfield 11, 3) := by decide +kernel
theorem dX9_init_13 : decode cX9_init 13 = .ok (.return_, 1) := by decide +kernel
theorem dX9_putInt_0 : decode cX9_putInt 0 = .ok (.bipush 24, 2) := by decide +kernel
theorem dX9_putInt_2 : decode cX9_putInt 2 = .ok (.istore_n 2, 1) := by decide +kernel
theorem dX9_putInt_3 : decode cX9_putInt 3 = .ok (.iload_n 2, 1) := by decide +kernel
theorem dX9_putInt_4 : decode cX9_putInt 4 = .ok (.ifCond .lt 45, 3) := by decide +kernel
theorem dX9_putInt_7 : decode cX9_putInt 7 = .ok (.aload_n 0, 1) := by decide +kernel
theorem dX9_putInt_8 : decode cX9_putInt 8 = .ok (.getfield 15, 3) := by decide +kernel
theorem dX9_putInt_11 : decode cX9_putInt 11 = .ok (.sipush 220, 3) := by decide +kernel
theorem dX9_putInt_14 : decode cX9_putInt 14 = .ok (.if_icmp .ge 35, 3) := by decide +kernel
theorem dX9_putInt_17 : decode cX9_putInt 17 = .ok (.aload_n 0, 1) := by decide +kernel
theorem dX9_putInt_18 : decode cX9_putInt 18 = .ok (.getfield 11, 3) := by decide +kernel
theorem dX9_putInt_21 : decode cX9_putInt 21 = .ok (.aload_n 0, 1) := by decide +kernel
theorem dX9_putInt_22 : decode cX9_putInt 22 = .ok (.getfield 15, 3) := by decide +kernel
theorem dX9_putInt_25 : decode cX9_putInt 25 = .ok (.iload_n 1, 1) := by decide +kernel
theorem dX9_putInt_26 : decode cX9_putInt 26 = .ok (.iload_n 2, 1) := by decide +kernel
theorem dX9_putInt_27 : decode cX9_putInt 27 = .ok (.iushr, 1) := by decide +kernel
theorem dX9_putInt_28 : decode cX9_putInt 28 = .ok (.sipush 255, 3) := by decide +kernel
theorem dX9_putInt_31 : decode cX9_putInt 31 = .ok (.iand, 1) := by decide +kernel
theorem dX9_putInt_32 : decode cX9_putInt 32 = .ok (.iastore, 1) := by decide +kernel
theorem dX9_putInt_33 : decode cX9_putInt 33 = .ok (.aload_n 0, 1) := by decide +kernel
