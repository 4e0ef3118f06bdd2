theorem dX9_putInt_34 : decode cX9_putInt 34 = .ok (.dup, 1) := by decide +kernel
theorem dX9_putInt_35 : decode cX9_putInt 35 = .ok (.getfield 15, 3) := by decide +kernel
theorem dX9_putInt_38 : decode cX9_putInt 38 = .ok (.iconst 1, 1) := by decide +kernel
theorem dX9_putInt_39 : decode cX9_putInt 39 = .ok (.iadd, 1) := by decide +kernel
theorem dX9_putInt_40 : decode cX9_putInt 40 = .ok (.putfield 15, 3) := by decide +kernel
theorem dX9_putInt_43 : decode cX9_putInt 43 = .ok (.iinc 2 (-8), 3) := by decide +kernel
theorem dX9_putInt_46 : decode cX9_putInt 46 = .ok (.goto (-43), 3) := by decide +kernel
theorem dX9_putInt_49 : decode cX9_putInt 49 = .ok (.return_, 1) := by decide +kernel
theorem dX9_byteAt_0 : decode cX9_byteAt 0 = .ok (.iload_n 1, 1) := by decide +kernel
theorem dX9_byteAt_1 : decode cX9_byteAt 1 = .ok (.iconst 0, 1) := by decide +kernel
theorem dX9_byteAt_2 : decode cX9_byteAt 2 = .ok (.aload_n 0, 1) := by decide +kernel
theorem dX9_byteAt_3 : decode cX9_byteAt 3 = .ok (.getfield 15, 3) := by decide +kernel
theorem dX9_byteAt_6 : decode cX9_byteAt 6 = .ok (.iconst 1, 1) := by decide +kernel
theorem dX9_byteAt_7 : decode cX9_byteAt 7 = .ok (.isub, 1) := by decide +kernel
theorem dX9_byteAt_8 : decode cX9_byteAt 8 = .ok (.invokestatic 19, 3) := by decide +kernel
theorem dX9_byteAt_11 : decode cX9_byteAt 11 = .ok (.ifCond .eq 12, 3) := by decide +kernel
theorem dX9_byteAt_14 : decode cX9_byteAt 14 = .ok (.aload_n 0, 1) := by decide +kernel
theorem dX9_byteAt_15 : decode cX9_byteAt 15 = .ok (.getfield 11, 3) := by decide +kernel
theorem dX9_byteAt_18 : decode cX9_byteAt 18 = .ok (.iload_n 1, 1) := by decide +kernel
theorem dX9_byteAt_19 : decode cX9_byteAt 19 = .ok (.iaload, 1) := by decide +kernel
theorem dX9_byteAt_20 : decode cX9_byteAt 20 = .ok (.goto 4, 3) := by decide +kernel
theorem dX9_byteAt_23 : decode cX9_byteAt 23 = .ok (.iconst (-1), 1) := by decide +kernel
theorem dX9_byteAt_24 : decode cX9_byteAt 24 = .ok (.ireturn, 1) := by decide +kernel
theorem dX9_intAt_0 : decode cX9_intAt 0 = .ok (.iconst 0, 1) := by decide +kernel
theorem dX9_intAt_1 : decode cX9_intAt 1 = .ok (.istore_n 2, 1) := by decide +kernel
theorem dX9_intAt_2 : decode cX9_intAt 2 = .ok (.iconst 0, 1) := by decide +kernel
theorem dX9_intAt_3 : decode cX9_intAt 3 = .ok (.istore_n 3, 1) := by decide +kernel
theorem dX9_intAt_4 : decode cX9_intAt 4 = .ok (.iload_n 3, 1) := by decide +kernel
theorem dX9_intAt_5 : decode cX9_intAt 5 = .ok (.iconst 4, 1) := by decide +kernel
theorem dX9_intAt_6 : decode cX9_intAt 6 = .ok (.if_icmp .ge 22, 3) := by decide +kernel
theorem dX9_intAt_9 : decode cX9_intAt 9 = .ok (.iload_n 2, 1) := by decide +kernel
theorem dX9_intAt_10 : decode cX9_intAt 10 = .ok (.bipush 8, 2) := by decide +kernel
theorem dX9_intAt_12 : decode cX9_intAt 12 = .ok (.ishl, 1) := by decide +kernel
theorem dX9_intAt_13 : decode cX9_intAt 13 = .ok (.aload_n 0, 1) := by decide +kernel
theorem dX9_intAt_14 : decode cX9_intAt 14 = .ok (.iload_n 1, 1) := by decide +kernel
theorem dX9_intAt_15 : decode cX9_intAt 15 = .ok (.iload_n 3, 1) := by decide +kernel
theorem dX9_intAt_16 : decode cX9_intAt 16 = .ok (.iadd, 1) := by decide +kernel
theorem dX9_intAt_17 : decode cX9_intAt 17 = .ok (.invokevirtual 23, 3) := by decide +kernel
theorem dX9_intAt_20 : decode cX9_intAt 20 = .ok (.ior, 1) := by decide +kernel
theorem dX9_intAt_21 : decode cX9_intAt 21 = .ok (.istore_n 2, 1) := by decide +kernel
theorem dX9_intAt_22 : decode cX9_intAt 22 = .ok (.iinc 3 1, 3) := by decide +kernel
theorem dX9_intAt_25 : decode cX9_intAt 25 = .ok (.goto (-21), 3) := by decide +kernel
theorem dX9_intAt_28 : decode cX9_intAt 28 = .ok (.iload_n 2, 1) := by decide +kernel
theorem dX9_intAt_29 : decode cX9_intAt 29 = .ok (.ireturn, 1) := by decide +kernel
theorem dX9_empty_0 : decode cX9_empty 0 = .ok (.aload_n 0, 1) := by decide +kernel
theorem dX9_empty_1 : decode cX9_empty 1 = .ok (.iconst 0, 1) := by decide +kernel
theorem dX9_empty_2 : decode cX9_empty 2 = .ok (.putfield 15, 3) := by decide +kernel
theorem dX9_empty_5 : decode cX9_empty 5 = .ok (.return_, 1) := by decide +kernel
theorem dX10_init_0 : decode cX10_init 0 = .ok (.aload_n 0, 1) := by decide +kernel
theorem dX10_init_1 : decode cX10_init 1 = .ok (.invokespecial 3, 3) := by decide +kernel
theorem dX10_init_4 : decode cX10_init 4 = .ok (.aload_n 0, 1) := by decide +kernel
theorem dX10_init_5 : decode cX10_init 5 = .ok (.bipush 30, 2) := by decide +kernel
theorem dX10_init_7 : decode cX10_init 7 = .ok (.newarray .int, 2) := by decide +kernel
theorem dX10_init_9 : decode cX10_init 9 = .ok (.putfield 11, 3) := by decide +kernel
theorem dX10_init_12 : decode cX10_init 12 = .ok (.aload_n 0, 1) := by decide +kernel
theorem dX10_init_13 : decode cX10_init 13 = .ok (.bipush 30, 2) := by decide +kernel
theorem dX10_init_15 : decode cX10_init 15 = .ok (.newarray .int, 2) := by decide +kernel
theorem dX10_init_17 : decode cX10_init 17 = .ok (.putfield 15, 3) := by decide +kernel
theorem dX10_init_20 : decode cX10_init 20 = .ok (.aload_n 0, 1) := by decide +kernel
theorem dX10_init_21 : decode cX10_init 21 = .ok (.bipush 30, 2) := by decide +kernel
theorem dX10_init_23 : decode cX10_init 23 = .ok (.newarray .int, 2) := by decide +kernel
theorem dX10_init_25 : decode cX10_init 25 = .ok (.putfield 18, 3) := by decide +kernel
theorem dX10_init_28 : decode cX10_init 28 = .ok (.aload_n 0, 1) := by decide +kernel
theorem dX10_init_29 : decode cX10_init 29 = .ok (.aload_n 1, 1) := by decide +kernel
theorem dX10_init_30 : decode cX10_init 30 = .ok (.putfield 21, 3) := by decide +kernel
theorem dX10_init_33 : decode cX10_init 33 = .ok (.return_, 1) := by decide +kernel
theorem dX10_readFrom_0 : decode cX10_readFrom 0 = .ok (.aload_n 0, 1) := by decide +kernel
theorem dX10_readFrom_1 : decode cX10_readFrom 1 = .ok (.iload_n 2, 1) := by decide +kernel
theorem dX10_readFrom_2 : decode cX10_readFrom 2 = .ok (.putfield 25, 3) := by decide +kernel
theorem dX10_readFrom_5 : decode cX10_readFrom 5 = .ok (.aload_n 0, 1) := by decide +kernel
theorem dX10_readFrom_6 : decode cX10_readFrom 6 = .ok (.iconst 0, 1) := by decide +kernel
theorem dX10_readFrom_7 : decode cX10_readFrom 7 = .ok (.putfield 29, 3) := by decide +kernel
theorem dX10_readFrom_10 : decode cX10_readFrom 10 = .ok (.iconst 1, 1) := by decide +kernel
theorem dX10_readFrom_11 : decode cX10_readFrom 11 = .ok (.istore 4, 2) := by decide +kernel
theorem dX10_readFrom_13 : decode cX10_readFrom 13 = .ok (.iconst 0, 1) := by decide +kernel
theorem dX10_readFrom_14 : decode cX10_readFrom 14 = .ok (.istore 5, 2) := by decide +kernel
theorem dX10_readFrom_16 : decode cX10_readFrom 16 = .ok (.iload 5, 2) := by decide +kernel
theorem dX10_readFrom_18 : decode cX10_readFrom 18 = .ok (.iload_n 2, 1) := by decide +kernel
theorem dX10_readFrom_19 : decode cX10_readFrom 19 = .ok (.if_icmp .ge 144, 3) := by decide +kernel
theorem dX10_readFrom_22 : decode cX10_readFrom 22 = .ok (.aload_n 1, 1) := by decide +kernel
theorem dX10_readFrom_23 : decode cX10_readFrom 23 = .ok (.iconst 3, 1) := by decide +kernel
theorem dX10_readFrom_24 : decode cX10_readFrom 24 = .ok (.iload 5, 2) := by decide +kernel
theorem dX10_readFrom_26 : decode cX10_readFrom 26 = .ok (.imul, 1) := by decide +kernel
theorem dX10_readFrom_27 : decode cX10_readFrom 27 = .ok (.iconst 1, 1) := by decide +kernel
theorem dX10_readFrom_28 : decode cX10_readFrom 28 = .ok (.iadd, 1) := by decide +kernel
theorem dX10_readFrom_29 : decode cX10_readFrom 29 = .ok (.invokevirtual 32, 3) := by decide +kernel
theorem dX10_readFrom_32 : decode cX10_readFrom 32 = .ok (.istore 6, 2) := by decide +kernel
theorem dX10_readFrom_34 : decode cX10_readFrom 34 = .ok (.aload_n 0, 1) := by decide +kernel
theorem dX10_readFrom_35 : decode cX10_readFrom 35 = .ok (.getfield 11, 3) := by decide +kernel
theorem dX10_readFrom_38 : decode cX10_readFrom 38 = .ok (.iload 5, 2) := by decide +kernel
theorem dX10_readFrom_40 : decode cX10_readFrom 40 = .ok (.aload_n 1, 1) := by decide +kernel
theorem dX10_readFrom_41 : decode cX10_readFrom 41 = .ok (.iconst 3, 1) := by decide +kernel
theorem dX10_readFrom_42 : decode cX10_readFrom 42 = .ok (.iload 5, 2) := by decide +kernel
theorem dX10_readFrom_44 : decode cX10_readFrom 44 = .ok (.imul, 1) := by decide +kernel
theorem dX10_readFrom_45 : decode cX10_readFrom 45 = .ok (.invokevirtual 32, 3) := by decide +kernel
theorem dX10_readFrom_48 : decode cX10_readFrom 48 = .ok (.iastore, 1) := by decide +kernel
theorem dX10_readFrom_49 : decode cX10_readFrom 49 = .ok (.aload_n 0, 1) := by decide +kernel
theorem dX10_readFrom_50 : decode cX10_readFrom 50 = .ok (.getfield 15, 3) := by decide +kernel
theorem dX10_readFrom_53 : decode cX10_readFrom 53 = .ok (.iload 5, 2) := by decide +kernel
theorem dX10_readFrom_55 : decode cX10_readFrom 55 = .ok (.iload 6, 2) := by decide +kernel
theorem dX10_readFrom_57 : decode cX10_readFrom 57 = .ok (.sipush 255, 3) := by decide +kernel
theorem dX10_readFrom_60 : decode cX10_readFrom 60 = .ok (.if_icmp .ne 7, 3) := by decide +kernel
theorem dX10_readFrom_63 : decode cX10_readFrom 63 = .ok (.iconst (-1), 1) := by decide +kernel
theorem dX10_readFrom_64 : decode cX10_readFrom 64 = .ok (.goto 5, 3) := by decide +kernel
theorem dX10_readFrom_67 : decode cX10_readFrom 67 = .ok (.iload 6, 2) := by decide +kernel
theorem dX10_readFrom_69 : decode cX10_readFrom 69 = .ok (.iastore, 1) := by decide +kernel
theorem dX10_readFrom_70 : decode cX10_readFrom 70 = .ok (.aload_n 0, 1) := by decide +kernel
theorem dX10_readFrom_71 : decode cX10_readFrom 71 = .ok (.getfield 18, 3) := by decide +kernel
theorem dX10_readFrom_74 : decode cX10_readFrom 74 = .ok (.iload 5, 2) := by decide +kernel
theorem dX10_readFrom_76 : decode cX10_readFrom 76 = .ok (.aload_n 1, 1) := by decide +kernel
theorem dX10_readFrom_77 : decode cX10_readFrom 77 = .ok (.iconst 3, 1) := by decide +kernel
theorem dX10_readFrom_78 : decode cX10_readFrom 78 = .ok (.iload 5, 2) := by decide +kernel
theorem dX10_readFrom_80 : decode cX10_readFrom 80 = .ok (.imul, 1) := by decide +kernel
theorem dX10_readFrom_81 : decode cX10_readFrom 81 = .ok (.iconst 2, 1) := by decide +kernel
theorem dX10_readFrom_82 : decode cX10_readFrom 82 = .ok (.iadd, 1) := by decide +kernel
theorem dX10_readFrom_83 : decode cX10_readFrom 83 = .ok (.invokevirtual 32, 3) := by decide +kernel
theorem dX10_readFrom_86 : decode cX10_readFrom 86 = .ok (.iastore, 1) := by decide +kernel
theorem dX10_readFrom_87 : decode cX10_readFrom 87 = .ok (.aload_n 0, 1) := by decide +kernel
theorem dX10_readFrom_88 : decode cX10_readFrom 88 = .ok (.aload_n 0, 1) := by decide +kernel
theorem dX10_readFrom_89 : decode cX10_readFrom 89 = .ok (.getfield 29, 3) := by decide +kernel
theorem dX10_readFrom_92 : decode cX10_readFrom 92 = .ok (.aload_n 0, 1) := by decide +kernel
theorem dX10_readFrom_93 : decode cX10_readFrom 93 = .ok (.getfield 18, 3) := by decide +kernel
theorem dX10_readFrom_96 : decode cX10_readFrom 96 = .ok (.iload 5, 2) := by decide +kernel
theorem dX10_readFrom_98 : decode cX10_readFrom 98 = .ok (.iaload, 1) := by decide +kernel
theorem dX10_readFrom_99 : decode cX10_readFrom 99 = .ok (.invokestatic 38, 3) := by decide +kernel
theorem dX10_readFrom_102 : decode cX10_readFrom 102 = .ok (.putfield 29, 3) := by decide +kernel
theorem dX10_readFrom_105 : decode cX10_readFrom 105 = .ok (.iload 4, 2) := by decide +kernel
theorem dX10_readFrom_107 : decode cX10_readFrom 107 = .ok (.ifCond .eq 47, 3) := by decide +kernel
theorem dX10_readFrom_110 : decode cX10_readFrom 110 = .ok (.aload_n 0, 1) := by decide +kernel
theorem dX10_readFrom_111 : decode cX10_readFrom 111 = .ok (.getfield 11, 3) := by decide +kernel
theorem dX10_readFrom_114 : decode cX10_readFrom 114 = .ok (.iload 5, 2) := by decide +kernel
theorem dX10_readFrom_116 : decode cX10_readFrom 116 = .ok (.iaload, 1) := by decide +kernel
theorem dX10_readFrom_117 : decode cX10_readFrom 117 = .ok (.aload_n 3, 1) := by decide +kernel
theorem dX10_readFrom_118 : decode cX10_readFrom 118 = .ok (.getfield 44, 3) := by decide +kernel
theorem dX10_readFrom_121 : decode cX10_readFrom 121 = .ok (.if_icmp .ge 33, 3) := by decide +kernel
theorem dX10_readFrom_124 : decode cX10_readFrom 124 = .ok (.aload_n 0, 1) := by decide +kernel
theorem dX10_readFrom_125 : decode cX10_readFrom 125 = .ok (.getfield 15, 3) := by decide +kernel
theorem dX10_readFrom_128 : decode cX10_readFrom 128 = .ok (.iload 5, 2) := by decide +kernel
theorem dX10_readFrom_130 : decode cX10_readFrom 130 = .ok (.iaload, 1) := by decide +kernel
theorem dX10_readFrom_131 : decode cX10_readFrom 131 = .ok (.aload_n 3, 1) := by decide +kernel
theorem dX10_readFrom_132 : decode cX10_readFrom 132 = .ok (.getfield 49, 3) := by decide +kernel
theorem dX10_readFrom_135 : decode cX10_readFrom 135 = .ok (.if_icmp .ge 19, 3) := by decide +kernel
theorem dX10_readFrom_138 : decode cX10_readFrom 138 = .ok (.aload_n 0, 1) := by decide +kernel
theorem dX10_readFrom_139 : decode cX10_readFrom 139 = .ok (.getfield 18, 3) := by decide +kernel
theorem dX10_readFrom_142 : decode cX10_readFrom 142 = .ok (.iload 5, 2) := by decide +kernel
theorem dX10_readFrom_144 : decode cX10_readFrom 144 = .ok (.iaload, 1) := by decide +kernel
theorem dX10_readFrom_145 : decode cX10_readFrom 145 = .ok (.bipush 10, 2) := by decide +kernel
theorem dX10_readFrom_147 : decode cX10_readFrom 147 = .ok (.if_icmp .ge 7, 3) := by decide +kernel
theorem dX10_readFrom_150 : decode cX10_readFrom 150 = .ok (.iconst 1, 1) := by decide +kernel
theorem dX10_readFrom_151 : decode cX10_readFrom 151 = .ok (.goto 4, 3) := by decide +kernel
theorem dX10_readFrom_154 : decode cX10_readFrom 154 = .ok (.iconst 0, 1) := by decide +kernel
theorem dX10_readFrom_155 : decode cX10_readFrom 155 = .ok (.istore 4, 2) := by decide +kernel
theorem dX10_readFrom_157 : decode cX10_readFrom 157 = .ok (.iinc 5 1, 3) := by decide +kernel
theorem dX10_readFrom_160 : decode cX10_readFrom 160 = .ok (.goto (-144), 3) := by decide +kernel
theorem dX10_readFrom_163 : decode cX10_readFrom 163 = .ok (.iload 4, 2) := by decide +kernel
theorem dX10_readFrom_165 : decode cX10_readFrom 165 = .ok (.ireturn, 1) := by decide +kernel
theorem dX10_findFits_0 : decode cX10_findFits 0 = .ok (.aload_n 0, 1) := by decide +kernel
theorem dX10_findFits_1 : decode cX10_findFits 1 = .ok (.iconst 0, 1) := by decide +kernel
theorem dX10_findFits_2 : decode cX10_findFits 2 = .ok (.putfield 52, 3) := by decide +kernel
theorem dX10_findFits_5 : decode cX10_findFits 5 = .ok (.aload_n 0, 1) := by decide +kernel
theorem dX10_findFits_6 : decode cX10_findFits 6 = .ok (.bipush 13, 2) := by decide +kernel
theorem dX10_findFits_8 : decode cX10_findFits 8 = .ok (.putfield 55, 3) := by decide +kernel
theorem dX10_findFits_11 : decode cX10_findFits 11 = .ok (.aload_n 0, 1) := by decide +kernel
theorem dX10_findFits_12 : decode cX10_findFits 12 = .ok (.bipush 13, 2) := by decide +kernel
theorem dX10_findFits_14 : decode cX10_findFits 14 = .ok (.putfield 58, 3) := by decide +kernel
theorem dX10_findFits_17 : decode cX10_findFits 17 = .ok (.aload_n 0, 1) := by decide +kernel
theorem dX10_findFits_18 : decode cX10_findFits 18 = .ok (.getfield 21, 3) := by decide +kernel
theorem dX10_findFits_21 : decode cX10_findFits 21 = .ok (.invokevirtual 61, 3) := by decide +kernel
theorem dX10_findFits_24 : decode cX10_findFits 24 = .ok (.iconst 0, 1) := by decide +kernel
theorem dX10_findFits_25 : decode cX10_findFits 25 = .ok (.istore_n 3, 1) := by decide +kernel
theorem dX10_findFits_26 : decode cX10_findFits 26 = .ok (.iload_n 3, 1) := by decide +kernel
theorem dX10_findFits_27 : decode cX10_findFits 27 = .ok (.aload_n 1, 1) := by decide +kernel
theorem dX10_findFits_28 : decode cX10_findFits 28 = .ok (.getfield 49, 3) := by decide +kernel
theorem dX10_findFits_31 : decode cX10_findFits 31 = .ok (.if_icmp .ge 61, 3) := by decide +kernel
theorem dX10_findFits_34 : decode cX10_findFits 34 = .ok (.iconst 0, 1) := by decide +kernel
theorem dX10_findFits_35 : decode cX10_findFits 35 = .ok (.istore 4, 2) := by decide +kernel
theorem dX10_findFits_37 : decode cX10_findFits 37 = .ok (.iload 4, 2) := by decide +kernel
theorem dX10_findFits_39 : decode cX10_findFits 39 = .ok (.bipush 10, 2) := by decide +kernel
theorem dX10_findFits_41 : decode cX10_findFits 41 = .ok (.if_icmp .ge 45, 3) := by decide +kernel
theorem dX10_findFits_44 : decode cX10_findFits 44 = .ok (.aload_n 1, 1) := by decide +kernel
theorem dX10_findFits_45 : decode cX10_findFits 45 = .ok (.getfield 64, 3) := by decide +kernel
theorem dX10_findFits_48 : decode cX10_findFits 48 = .ok (.iload_n 3, 1) := by decide +kernel
theorem dX10_findFits_49 : decode cX10_findFits 49 = .ok (.aaload, 1) := by decide +kernel
theorem dX10_findFits_50 : decode cX10_findFits 50 = .ok (.getfield 67, 3) := by decide +kernel
theorem dX10_findFits_53 : decode cX10_findFits 53 = .ok (.ifCond .eq 33, 3) := by decide +kernel
theorem dX10_findFits_56 : decode cX10_findFits 56 = .ok (.aload_n 0, 1) := by decide +kernel
theorem dX10_findFits_57 : decode cX10_findFits 57 = .ok (.aload_n 1, 1) := by decide +kernel
theorem dX10_findFits_58 : decode cX10_findFits 58 = .ok (.aload_n 2, 1) := by decide +kernel
theorem dX10_findFits_59 : decode cX10_findFits 59 = .ok (.iload_n 3, 1) := by decide +kernel
theorem dX10_findFits_60 : decode cX10_findFits 60 = .ok (.aload_n 1, 1) := by decide +kernel
theorem dX10_findFits_61 : decode cX10_findFits 61 = .ok (.getfield 73, 3) := by decide +kernel
theorem dX10_findFits_64 : decode cX10_findFits 64 = .ok (.iload 4, 2) := by decide +kernel
theorem dX10_findFits_66 : decode cX10_findFits 66 = .ok (.iadd, 1) := by decide +kernel
theorem dX10_findFits_67 : decode cX10_findFits 67 = .ok (.invokevirtual 76, 3) := by decide +kernel
theorem dX10_findFits_70 : decode cX10_findFits 70 = .ok (.ifCond .eq 10, 3) := by decide +kernel
theorem dX10_findFits_73 : decode cX10_findFits 73 = .ok (.aload_n 0, 1) := by decide +kernel
theorem dX10_findFits_74 : decode cX10_findFits 74 = .ok (.iload_n 3, 1) := by decide +kernel
theorem dX10_findFits_75 : decode cX10_findFits 75 = .ok (.iload 4, 2) := by decide +kernel
theorem dX10_findFits_77 : decode cX10_findFits 77 = .ok (.invokevirtual 80, 3) := by decide +kernel
theorem dX10_findFits_80 : decode cX10_findFits 80 = .ok (.iinc 4 1, 3) := by decide +kernel
theorem dX10_findFits_83 : decode cX10_findFits 83 = .ok (.goto (-46), 3) := by decide +kernel
theorem dX10_findFits_86 : decode cX10_findFits 86 = .ok (.iinc 3 1, 3) := by decide +kernel
theorem dX10_findFits_89 : decode cX10_findFits 89 = .ok (.goto (-63), 3) := by decide +kernel
theorem dX10_findFits_92 : decode cX10_findFits 92 = .ok (.aload_n 0, 1) := by decide +kernel
theorem dX10_findFits_93 : decode cX10_findFits 93 = .ok (.aload_n 1, 1) := by decide +kernel
theorem dX10_findFits_94 : decode cX10_findFits 94 = .ok (.aload_n 2, 1) := by decide +kernel
theorem dX10_findFits_95 : decode cX10_findFits 95 = .ok (.iconst (-1), 1) := by decide +kernel
theorem dX10_findFits_96 : decode cX10_findFits 96 = .ok (.iconst (-1), 1) := by decide +kernel
theorem dX10_findFits_97 : decode cX10_findFits 97 = .ok (.invokevirtual 76, 3) := by decide +kernel
theorem dX10_findFits_100 : decode cX10_findFits 100 = .ok (.ifCond .eq 11, 3) := by decide +kernel
theorem dX10_findFits_103 : decode cX10_findFits 103 = .ok (.aload_n 0, 1) := by decide +kernel
theorem dX10_findFits_104 : decode cX10_findFits 104 = .ok (.bipush 12, 2) := by decide +kernel
theorem dX10_findFits_106 : decode cX10_findFits 106 = .ok (.bipush 12, 2) := by decide +kernel
theorem dX10_findFits_108 : decode cX10_findFits 108 = .ok (.invokevirtual 80, 3) := by decide +kernel
theorem dX10_findFits_111 : decode cX10_findFits 111 = .ok (.return_, 1) := by decide +kernel
theorem dX10_countFit_0 : decode cX10_countFit 0 = .ok (.aload_n 0, 1) := by decide +kernel
theorem dX10_countFit_1 : decode cX10_countFit 1 = .ok (.getfield 52, 3) := by decide +kernel
theorem dX10_countFit_4 : decode cX10_countFit 4 = .ok (.ifCond .ne 13, 3) := by decide +kernel
theorem dX10_countFit_7 : decode cX10_countFit 7 = .ok (.aload_n 0, 1) := by decide +kernel
theorem dX10_countFit_8 : decode cX10_countFit 8 = .ok (.iload_n 1, 1) := by decide +kernel
theorem dX10_countFit_9 : decode cX10_countFit 9 = .ok (.putfield 55, 3) := by decide +kernel
theorem dX10_countFit_12 : decode cX10_countFit 12 = .ok (.aload_n 0, 1) := by decide +kernel
theorem dX10_countFit_13 : decode cX10_countFit 13 = .ok (.iload_n 2, 1) := by decide +kernel
theorem dX10_countFit_14 : decode cX10_countFit 14 = .ok (.putfield 58, 3) := by decide +kernel
theorem dX10_countFit_17 : decode cX10_countFit 17 = .ok (.aload_n 0, 1) := by decide +kernel
theorem dX10_countFit_18 : decode cX10_countFit 18 = .ok (.dup, 1) := by decide +kernel
theorem dX10_countFit_19 : decode cX10_countFit 19 = .ok (.getfield 52, 3) := by decide +kernel
theorem dX10_countFit_22 : decode cX10_countFit 22 = .ok (.iconst 1, 1) := by decide +kernel
theorem dX10_countFit_23 : decode cX10_countFit 23 = .ok (.iadd, 1) := by decide +kernel
theorem dX10_countFit_24 : decode cX10_countFit 24 = .ok (.putfield 52, 3) := by decide +kernel
theorem dX10_countFit_27 : decode cX10_countFit 27 = .ok (.return_, 1) := by decide +kernel
theorem dX10_fits_0 : decode cX10_fits 0 = .ok (.aload_n 0, 1) := by decide +kernel
theorem dX10_fits_1 : decode cX10_fits 1 = .ok (.getfield 21, 3) := by decide +kernel
theorem dX10_fits_4 : decode cX10_fits 4 = .ok (.aload_n 1, 1) := by decide +kernel
theorem dX10_fits_5 : decode cX10_fits 5 = .ok (.invokevirtual 84, 3) := by decide +kernel
theorem dX10_fits_8 : decode cX10_fits 8 = .ok (.aload_n 0, 1) := by decide +kernel
theorem dX10_fits_9 : decode cX10_fits 9 = .ok (.getfield 21, 3) := by decide +kernel
theorem dX10_fits_12 : decode cX10_fits 12 = .ok (.iload_n 3, 1) := by decide +kernel
theorem dX10_fits_13 : decode cX10_fits 13 = .ok (.iload 4, 2) := by decide +kernel
theorem dX10_fits_15 : decode cX10_fits 15 = .ok (.invokevirtual 88, 3) := by decide +kernel
theorem dX10_fits_18 : decode cX10_fits 18 = .ok (.iconst 0, 1) := by decide +kernel
theorem dX10_fits_19 : decode cX10_fits 19 = .ok (.istore 5, 2) := by decide +kernel
theorem dX10_fits_21 : decode cX10_fits 21 = .ok (.iload 5, 2) := by decide +kernel
theorem dX10_fits_23 : decode cX10_fits 23 = .ok (.aload_n 0, 1) := by decide +kernel
theorem dX10_fits_24 : decode cX10_fits 24 = .ok (.getfield 29, 3) := by decide +kernel
theorem dX10_fits_27 : decode cX10_fits 27 = .ok (.if_icmp .gt 82, 3) := by decide +kernel
theorem dX10_fits_30 : decode cX10_fits 30 = .ok (.iload 5, 2) := by decide +kernel
theorem dX10_fits_32 : decode cX10_fits 32 = .ok (.bipush 10, 2) := by decide +kernel
theorem dX10_fits_34 : decode cX10_fits 34 = .ok (.if_icmp .ge 75, 3) := by decide +kernel
theorem dX10_fits_37 : decode cX10_fits 37 = .ok (.aload_n 0, 1) := by decide +kernel
theorem dX10_fits_38 : decode cX10_fits 38 = .ok (.getfield 21, 3) := by decide +kernel
theorem dX10_fits_41 : decode cX10_fits 41 = .ok (.aload_n 2, 1) := by decide +kernel
theorem dX10_fits_42 : decode cX10_fits 42 = .ok (.invokevirtual 91, 3) := by decide +kernel
theorem dX10_fits_45 : decode cX10_fits 45 = .ok (.pop, 1) := by decide +kernel
theorem dX10_fits_46 : decode cX10_fits 46 = .ok (.iconst 0, 1) := by decide +kernel
theorem dX10_fits_47 : decode cX10_fits 47 = .ok (.istore 6, 2) := by decide +kernel
theorem dX10_fits_49 : decode cX10_fits 49 = .ok (.iload 6, 2) := by decide +kernel
theorem dX10_fits_51 : decode cX10_fits 51 = .ok (.aload_n 0, 1) := by decide +kernel
theorem dX10_fits_52 : decode cX10_fits 52 = .ok (.getfield 25, 3) := by decide +kernel
theorem dX10_fits_55 : decode cX10_fits 55 = .ok (.if_icmp .ge 48, 3) := by decide +kernel
theorem dX10_fits_58 : decode cX10_fits 58 = .ok (.aload_n 0, 1) := by decide +kernel
theorem dX10_fits_59 : decode cX10_fits 59 = .ok (.getfield 18, 3) := by decide +kernel
theorem dX10_fits_62 : decode cX10_fits 62 = .ok (.iload 6, 2) := by decide +kernel
theorem dX10_fits_64 : decode cX10_fits 64 = .ok (.iaload, 1) := by decide +kernel
theorem dX10_fits_65 : decode cX10_fits 65 = .ok (.iload 5, 2) := by decide +kernel
theorem dX10_fits_67 : decode cX10_fits 67 = .ok (.if_icmp .ne 30, 3) := by decide +kernel
theorem dX10_fits_70 : decode cX10_fits 70 = .ok (.aload_n 0, 1) := by decide +kernel
theorem dX10_fits_71 : decode cX10_fits 71 = .ok (.getfield 21, 3) := by decide +kernel
theorem dX10_fits_74 : decode cX10_fits 74 = .ok (.getfield 95, 3) := by decide +kernel
theorem dX10_fits_77 : decode cX10_fits 77 = .ok (.aload_n 0, 1) := by decide +kernel
theorem dX10_fits_78 : decode cX10_fits 78 = .ok (.getfield 11, 3) := by decide +kernel
theorem dX10_fits_81 : decode cX10_fits 81 = .ok (.iload 6, 2) := by decide +kernel
theorem dX10_fits_83 : decode cX10_fits 83 = .ok (.iaload, 1) := by decide +kernel
theorem dX10_fits_84 : decode cX10_fits 84 = .ok (.iaload, 1) := by decide +kernel
theorem dX10_fits_85 : decode cX10_fits 85 = .ok (.aload_n 0, 1) := by decide +kernel
theorem dX10_fits_86 : decode cX10_fits 86 = .ok (.getfield 15, 3) := by decide +kernel
theorem dX10_fits_89 : decode cX10_fits 89 = .ok (.iload 6, 2) := by decide +kernel
theorem dX10_fits_91 : decode cX10_fits 91 = .ok (.iaload, 1) := by decide +kernel
theorem dX10_fits_92 : decode cX10_fits 92 = .ok (.if_icmp .eq 5, 3) := by decide +kernel
theorem dX10_fits_95 : decode cX10_fits 95 = .ok (.iconst 0, 1) := by decide +kernel
theorem dX10_fits_96 : decode cX10_fits 96 = .ok (.ireturn, 1) := by decide +kernel
theorem dX10_fits_97 : decode cX10_fits 97 = .ok (.iinc 6 1, 3) := by decide +kernel
theorem dX10_fits_100 : decode cX10_fits 100 = .ok (.goto (-51), 3) := by decide +kernel
theorem dX10_fits_103 : decode cX10_fits 103 = .ok (.iinc 5 1, 3) := by decide +kernel
theorem dX10_fits_106 : decode cX10_fits 106 = .ok (.goto (-85), 3) := by decide +kernel
theorem dX10_fits_109 : decode cX10_fits 109 = .ok (.iconst 1, 1) := by decide +kernel
theorem dX10_fits_110 : decode cX10_fits 110 = .ok (.ireturn, 1) := by decide +kernel
theorem dX11_init_0 : decode cX11_init 0 = .ok (.aload_n 0, 1) := by decide +kernel
theorem dX11_init_1 : decode cX11_init 1 = .ok (.invokespecial 1, 3) := by decide +kernel
theorem dX11_init_4 : decode cX11_init 4 = .ok (.aload_n 0, 1) := by decide +kernel
theorem dX11_init_5 : decode cX11_init 5 = .ok (.new 7, 3) := by decide +kernel
theorem dX11_init_8 : decode cX11_init 8 = .ok (.dup, 1) := by decide +kernel
theorem dX11_init_9 : decode cX11_init 9 = .ok (.invokespecial 9, 3) := by decide +kernel
theorem dX11_init_12 : decode cX11_init 12 = .ok (.putfield 10, 3) := by decide +kernel
theorem dX11_init_15 : decode cX11_init 15 = .ok (.aload_n 0, 1) := by decide +kernel
theorem dX11_init_16 : decode cX11_init 16 = .ok (.new 7, 3) := by decide +kernel
theorem dX11_init_19 : decode cX11_init 19 = .ok (.dup, 1) := by decide +kernel
theorem dX11_init_20 : decode cX11_init 20 = .ok (.invokespecial 9, 3) := by decide +kernel
theorem dX11_init_23 : decode cX11_init 23 = .ok (.putfield 16, 3) := by decide +kernel
theorem dX11_init_26 : decode cX11_init 26 = .ok (.aload_n 0, 1) := by decide +kernel
theorem dX11_init_27 : decode cX11_init 27 = .ok (.new 7, 3) := by decide +kernel
theorem dX11_init_30 : decode cX11_init 30 = .ok (.dup, 1) := by decide +kernel
theorem dX11_init_31 : decode cX11_init 31 = .ok (.invokespecial 9, 3) := by decide +kernel
theorem dX11_init_34 : decode cX11_init 34 = .ok (.putfield 19, 3) := by decide +kernel
theorem dX11_init_37 : decode cX11_init 37 = .ok (.aload_n 0, 1) := by decide +kernel
theorem dX11_init_38 : decode cX11_init 38 = .ok (.new 22, 3) := by decide +kernel
theorem dX11_init_41 : decode cX11_init 41 = .ok (.dup, 1) := by decide +kernel
theorem dX11_init_42 : decode cX11_init 42 = .ok (.invokespecial 24, 3) := by decide +kernel
theorem dX11_init_45 : decode cX11_init 45 = .ok (.putfield 25, 3) := by decide +kernel
theorem dX11_init_48 : decode cX11_init 48 = .ok (.aload_n 0, 1) := by decide +kernel
theorem dX11_init_49 : decode cX11_init 49 = .ok (.new 29, 3) := by decide +kernel
theorem dX11_init_52 : decode cX11_init 52 = .ok (.dup, 1) := by decide +kernel
theorem dX11_init_53 : decode cX11_init 53 = .ok (.aload_n 0, 1) := by decide +kernel
theorem dX11_init_54 : decode cX11_init 54 = .ok (.getfield 25, 3) := by decide +kernel
theorem dX11_init_57 : decode cX11_init 57 = .ok (.invokespecial 31, 3) := by decide +kernel
theorem dX11_init_60 : decode cX11_init 60 = .ok (.putfield 34, 3) := by decide +kernel
theorem dX11_init_63 : decode cX11_init 63 = .ok (.aload_n 0, 1) := by decide +kernel
theorem dX11_init_64 : decode cX11_init 64 = .ok (.new 38, 3) := by decide +kernel
theorem dX11_init_67 : decode cX11_init 67 = .ok (.dup, 1) := by decide +kernel
theorem dX11_init_68 : decode cX11_init 68 = .ok (.aload_n 0, 1) := by decide +kernel
theorem dX11_init_69 : decode cX11_init 69 = .ok (.getfield 19, 3) := by decide +kernel
theorem dX11_init_72 : decode cX11_init 72 = .ok (.invokespecial 40, 3) := by decide +kernel
theorem dX11_init_75 : decode cX11_init 75 = .ok (.putfield 43, 3) := by decide +kernel
theorem dX11_init_78 : decode cX11_init 78 = .ok (.aload_n 0, 1) := by decide +kernel
theorem dX11_init_79 : decode cX11_init 79 = .ok (.new 47, 3) := by decide +kernel
theorem dX11_init_82 : decode cX11_init 82 = .ok (.dup, 1) := by decide +kernel
theorem dX11_init_83 : decode cX11_init 83 = .ok (.aload_n 0, 1) := by decide +kernel
theorem dX11_init_84 : decode cX11_init 84 = .ok (.getfield 19, 3) := by decide +kernel
theorem dX11_init_87 : decode cX11_init 87 = .ok (.invokespecial 49, 3) := by decide +kernel
theorem dX11_init_90 : decode cX11_init 90 = .ok (.putfield 50, 3) := by decide +kernel
theorem dX11_init_93 : decode cX11_init 93 = .ok (.aload_n 0, 1) := by decide +kernel
theorem dX11_init_94 : decode cX11_init 94 = .ok (.new 54, 3) := by decide +kernel
theorem dX11_init_97 : decode cX11_init 97 = .ok (.dup, 1) := by decide +kernel
theorem dX11_init_98 : decode cX11_init 98 = .ok (.invokespecial 56, 3) := by decide +kernel
theorem dX11_init_101 : decode cX11_init 101 = .ok (.putfield 57, 3) := by decide +kernel
theorem dX11_init_104 : decode cX11_init 104 = .ok (.aload_n 0, 1) := by decide +kernel
theorem dX11_init_105 : decode cX11_init 105 = .ok (.new 61, 3) := by decide +kernel
theorem dX11_init_108 : decode cX11_init 108 = .ok (.dup, 1) := by decide +kernel
theorem dX11_init_109 : decode cX11_init 109 = .ok (.invokespecial 63, 3) := by decide +kernel
theorem dX11_init_112 : decode cX11_init 112 = .ok (.putfield 64, 3) := by decide +kernel
theorem dX11_init_115 : decode cX11_init 115 = .ok (.aload_n 0, 1) := by decide +kernel
theorem dX11_init_116 : decode cX11_init 116 = .ok (.new 68, 3) := by decide +kernel
theorem dX11_init_119 : decode cX11_init 119 = .ok (.dup, 1) := by decide +kernel
theorem dX11_init_120 : decode cX11_init 120 = .ok (.invokespecial 70, 3) := by decide +kernel
theorem dX11_init_123 : decode cX11_init 123 = .ok (.putfield 71, 3) := by decide +kernel
theorem dX11_init_126 : decode cX11_init 126 = .ok (.aload_n 0, 1) := by decide +kernel
theorem dX11_init_127 : decode cX11_init 127 = .ok (.new 68, 3) := by decide +kernel
theorem dX11_init_130 : decode cX11_init 130 = .ok (.dup, 1) := by decide +kernel
theorem dX11_init_131 : decode cX11_init 131 = .ok (.invokespecial 70, 3) := by decide +kernel
theorem dX11_init_134 : decode cX11_init 134 = .ok (.putfield 75, 3) := by decide +kernel
theorem dX11_init_137 : decode cX11_init 137 = .ok (.aload_n 0, 1) := by decide +kernel
theorem dX11_init_138 : decode cX11_init 138 = .ok (.iconst 0, 1) := by decide +kernel
theorem dX11_init_139 : decode cX11_init 139 = .ok (.putfield 78, 3) := by decide +kernel
theorem dX11_init_142 : decode cX11_init 142 = .ok (.return_, 1) := by decide +kernel
theorem dX11_stack_0 : decode cX11_stack 0 = .ok (.iload_n 1, 1) := by decide +kernel
theorem dX11_stack_1 : decode cX11_stack 1 = .ok (.iload_n 2, 1) := by decide +kernel
theorem dX11_stack_2 : decode cX11_stack 2 = .ok (.invokestatic 82, 3) := by decide +kernel
theorem dX11_stack_5 : decode cX11_stack 5 = .ok (.ifCond .eq 48, 3) := by decide +kernel
theorem dX11_stack_8 : decode cX11_stack 8 = .ok (.iload_n 3, 1) := by decide +kernel
theorem dX11_stack_9 : decode cX11_stack 9 = .ok (.invokestatic 86, 3) := by decide +kernel
theorem dX11_stack_12 : decode cX11_stack 12 = .ok (.ifCond .eq 41, 3) := by decide +kernel
theorem dX11_stack_15 : decode cX11_stack 15 = .ok (.iload 4, 2) := by decide +kernel
theorem dX11_stack_17 : decode cX11_stack 17 = .ok (.iconst 0, 1) := by decide +kernel
theorem dX11_stack_18 : decode cX11_stack 18 = .ok (.sipush 999, 3) := by decide +kernel
theorem dX11_stack_21 : decode cX11_stack 21 = .ok (.invokestatic 90, 3) := by decide +kernel
theorem dX11_stack_24 : decode cX11_stack 24 = .ok (.ifCond .eq 29, 3) := by decide +kernel
theorem dX11_stack_27 : decode cX11_stack 27 = .ok (.iload 5, 2) := by decide +kernel
theorem dX11_stack_29 : decode cX11_stack 29 = .ok (.iconst 0, 1) := by decide +kernel
theorem dX11_stack_30 : decode cX11_stack 30 = .ok (.bipush 99, 2) := by decide +kernel
theorem dX11_stack_32 : decode cX11_stack 32 = .ok (.invokestatic 90, 3) := by decide +kernel
theorem dX11_stack_35 : decode cX11_stack 35 = .ok (.ifCond .eq 18, 3) := by decide +kernel
theorem dX11_stack_38 : decode cX11_stack 38 = .ok (.iload 6, 2) := by decide +kernel
theorem dX11_stack_40 : decode cX11_stack 40 = .ok (.iconst 0, 1) := by decide +kernel
theorem dX11_stack_41 : decode cX11_stack 41 = .ok (.bipush 99, 2) := by decide +kernel
theorem dX11_stack_43 : decode cX11_stack 43 = .ok (.invokestatic 90, 3) := by decide +kernel
theorem dX11_stack_46 : decode cX11_stack 46 = .ok (.ifCond .eq 7, 3) := by decide +kernel
theorem dX11_stack_49 : decode cX11_stack 49 = .ok (.iconst 1, 1) := by decide +kernel
theorem dX11_stack_50 : decode cX11_stack 50 = .ok (.goto 4, 3) := by decide +kernel
theorem dX11_stack_53 : decode cX11_stack 53 = .ok (.iconst 0, 1) := by decide +kernel
theorem dX11_stack_54 : decode cX11_stack 54 = .ok (.istore 7, 2) := by decide +kernel
theorem dX11_stack_56 : decode cX11_stack 56 = .ok (.iload 7, 2) := by decide +kernel
theorem dX11_stack_58 : decode cX11_stack 58 = .ok (.ifCond .eq 15, 3) := by decide +kernel
theorem dX11_stack_61 : decode cX11_stack 61 = .ok (.aload_n 0, 1) := by decide +kernel
theorem dX11_stack_62 : decode cX11_stack 62 = .ok (.getfield 10, 3) := by decide +kernel
theorem dX11_stack_65 : decode cX11_stack 65 = .ok (.getfield 94, 3) := by decide +kernel
theorem dX11_stack_68 : decode cX11_stack 68 = .ok (.bipush 12, 2) := by decide +kernel
theorem dX11_stack_70 : decode cX11_stack 70 = .ok (.if_icmp .lt 5, 3) := by decide +kernel
theorem dX11_stack_73 : decode cX11_stack 73 = .ok (.iconst (-1), 1) := by decide +kernel
theorem dX11_stack_74 : decode cX11_stack 74 = .ok (.ireturn, 1) := by decide +kernel
theorem dX11_stack_75 : decode cX11_stack 75 = .ok (.aload_n 0, 1) := by decide +kernel
theorem dX11_stack_76 : decode cX11_stack 76 = .ok (.getfield 10, 3) := by decide +kernel
theorem dX11_stack_79 : decode cX11_stack 79 = .ok (.iload_n 1, 1) := by decide +kernel
theorem dX11_stack_80 : decode cX11_stack 80 = .ok (.iload_n 2, 1) := by decide +kernel
theorem dX11_stack_81 : decode cX11_stack 81 = .ok (.invokevirtual 98, 3) := by decide +kernel
theorem dX11_stack_84 : decode cX11_stack 84 = .ok (.ifCond .eq 6, 3) := by decide +kernel
theorem dX11_stack_87 : decode cX11_stack 87 = .ok (.bipush (-2), 2) := by decide +kernel
theorem dX11_stack_89 : decode cX11_stack 89 = .ok (.ireturn, 1) := by decide +kernel
theorem dX11_stack_90 : decode cX11_stack 90 = .ok (.aload_n 0, 1) := by decide +kernel
theorem dX11_stack_91 : decode cX11_stack 91 = .ok (.getfield 10, 3) := by decide +kernel
theorem dX11_stack_94 : decode cX11_stack 94 = .ok (.getfield 94, 3) := by decide +kernel
theorem dX11_stack_97 : decode cX11_stack 97 = .ok (.istore 8, 2) := by decide +kernel
theorem dX11_stack_99 : decode cX11_stack 99 = .ok (.aload_n 0, 1) := by decide +kernel
theorem dX11_stack_100 : decode cX11_stack 100 = .ok (.getfield 10, 3) := by decide +kernel
theorem dX11_stack_103 : decode cX11_stack 103 = .ok (.getfield 101, 3) := by decide +kernel
theorem dX11_stack_106 : decode cX11_stack 106 = .ok (.iload 8, 2) := by decide +kernel
theorem dX11_stack_108 : decode cX11_stack 108 = .ok (.aaload, 1) := by decide +kernel
theorem dX11_stack_109 : decode cX11_stack 109 = .ok (.iload_n 1, 1) := by decide +kernel
theorem dX11_stack_110 : decode cX11_stack 110 = .ok (.iload_n 2, 1) := by decide +kernel
theorem dX11_stack_111 : decode cX11_stack 111 = .ok (.iload_n 3, 1) := by decide +kernel
theorem dX11_stack_112 : decode cX11_stack 112 = .ok (.iload 4, 2) := by decide +kernel
theorem dX11_stack_114 : decode cX11_stack 114 = .ok (.iload 5, 2) := by decide +kernel
theorem dX11_stack_116 : decode cX11_stack 116 = .ok (.iload 6, 2) := by decide +kernel
theorem dX11_stack_118 : decode cX11_stack 118 = .ok (.invokevirtual 105, 3) := by decide +kernel
theorem dX11_stack_121 : decode cX11_stack 121 = .ok (.aload_n 0, 1) := by decide +kernel
theorem dX11_stack_122 : decode cX11_stack 122 = .ok (.getfield 10, 3) := by decide +kernel
theorem dX11_stack_125 : decode cX11_stack 125 = .ok (.dup, 1) := by decide +kernel
theorem dX11_stack_126 : decode cX11_stack 126 = .ok (.getfield 94, 3) := by decide +kernel
theorem dX11_stack_129 : decode cX11_stack 129 = .ok (.iconst 1, 1) := by decide +kernel
theorem dX11_stack_130 : decode cX11_stack 130 = .ok (.iadd, 1) := by decide +kernel
theorem dX11_stack_131 : decode cX11_stack 131 = .ok (.putfield 94, 3) := by decide +kernel
theorem dX11_stack_134 : decode cX11_stack 134 = .ok (.iload 8, 2) := by decide +kernel
theorem dX11_stack_136 : decode cX11_stack 136 = .ok (.ireturn, 1) := by decide +kernel
theorem dX11_cow_0 : decode cX11_cow 0 = .ok (.iload_n 1, 1) := by decide +kernel
theorem dX11_cow_1 : decode cX11_cow 1 = .ok (.iload_n 2, 1) := by decide +kernel
theorem dX11_cow_2 : decode cX11_cow 2 = .ok (.invokestatic 82, 3) := by decide +kernel
theorem dX11_cow_5 : decode cX11_cow 5 = .ok (.ifCond .eq 26, 3) := by decide +kernel
theorem dX11_cow_8 : decode cX11_cow 8 = .ok (.iload 4, 2) := by decide +kernel
theorem dX11_cow_10 : decode cX11_cow 10 = .ok (.iconst 1, 1) := by decide +kernel
theorem dX11_cow_11 : decode cX11_cow 11 = .ok (.bipush 9, 2) := by decide +kernel
theorem dX11_cow_13 : decode cX11_cow 13 = .ok (.invokestatic 90, 3) := by decide +kernel
theorem dX11_cow_16 : decode cX11_cow 16 = .ok (.ifCond .eq 15, 3) := by decide +kernel
theorem dX11_cow_19 : decode cX11_cow 19 = .ok (.aload_n 0, 1) := by decide +kernel
theorem dX11_cow_20 : decode cX11_cow 20 = .ok (.getfield 10, 3) := by decide +kernel
theorem dX11_cow_23 : decode cX11_cow 23 = .ok (.getfield 111, 3) := by decide +kernel
theorem dX11_cow_26 : decode cX11_cow 26 = .ok (.bipush 16, 2) := by decide +kernel
theorem dX11_cow_28 : decode cX11_cow 28 = .ok (.if_icmp .lt 5, 3) := by decide +kernel
theorem dX11_cow_31 : decode cX11_cow 31 = .ok (.iconst (-1), 1) := by decide +kernel
theorem dX11_cow_32 : decode cX11_cow 32 = .ok (.ireturn, 1) := by decide +kernel
theorem dX11_cow_33 : decode cX11_cow 33 = .ok (.aload_n 0, 1) := by decide +kernel
theorem dX11_cow_34 : decode cX11_cow 34 = .ok (.getfield 10, 3) := by decide +kernel
theorem dX11_cow_37 : decode cX11_cow 37 = .ok (.getfield 111, 3) := by decide +kernel
theorem dX11_cow_40 : decode cX11_cow 40 = .ok (.istore 5, 2) := by decide +kernel
theorem dX11_cow_42 : decode cX11_cow 42 = .ok (.aload_n 0, 1) := by decide +kernel
theorem dX11_cow_43 : decode cX11_cow 43 = .ok (.getfield 10, 3) := by decide +kernel
theorem dX11_cow_46 : decode cX11_cow 46 = .ok (.getfield 114, 3) := by decide +kernel
theorem dX11_cow_49 : decode cX11_cow 49 = .ok (.iload 5, 2) := by decide +kernel
theorem dX11_cow_51 : decode cX11_cow 51 = .ok (.aaload, 1) := by decide +kernel
theorem dX11_cow_52 : decode cX11_cow 52 = .ok (.iload_n 1, 1) := by decide +kernel
theorem dX11_cow_53 : decode cX11_cow 53 = .ok (.iload_n 2, 1) := by decide +kernel
theorem dX11_cow_54 : decode cX11_cow 54 = .ok (.iload_n 3, 1) := by decide +kernel
theorem dX11_cow_55 : decode cX11_cow 55 = .ok (.ifCond .eq 8, 3) := by decide +kernel
theorem dX11_cow_58 : decode cX11_cow 58 = .ok (.bipush 9, 2) := by decide +kernel
theorem dX11_cow_60 : decode cX11_cow 60 = .ok (.goto 4, 3) := by decide +kernel
theorem dX11_cow_63 : decode cX11_cow 63 = .ok (.iconst 1, 1) := by decide +kernel
theorem dX11_cow_64 : decode cX11_cow 64 = .ok (.iload 4, 2) := by decide +kernel
theorem dX11_cow_66 : decode cX11_cow 66 = .ok (.invokevirtual 118, 3) := by decide +kernel
theorem dX11_cow_69 : decode cX11_cow 69 = .ok (.aload_n 0, 1) := by decide +kernel
theorem dX11_cow_70 : decode cX11_cow 70 = .ok (.getfield 10, 3) := by decide +kernel
theorem dX11_cow_73 : decode cX11_cow 73 = .ok (.dup, 1) := by decide +kernel
theorem dX11_cow_74 : decode cX11_cow 74 = .ok (.getfield 111, 3) := by decide +kernel
theorem dX11_cow_77 : decode cX11_cow 77 = .ok (.iconst 1, 1) := by decide +kernel
theorem dX11_cow_78 : decode cX11_cow 78 = .ok (.iadd, 1) := by decide +kernel
theorem dX11_cow_79 : decode cX11_cow 79 = .ok (.putfield 111, 3) := by decide +kernel
theorem dX11_cow_82 : decode cX11_cow 82 = .ok (.iload 5, 2) := by decide +kernel
theorem dX11_cow_84 : decode cX11_cow 84 = .ok (.ireturn, 1) := by decide +kernel
theorem dX11_taste_0 : decode cX11_taste 0 = .ok (.aload_n 0, 1) := by decide +kernel
theorem dX11_taste_1 : decode cX11_taste 1 = .ok (.iload_n 1, 1) := by decide +kernel
theorem dX11_taste_2 : decode cX11_taste 2 = .ok (.invokevirtual 124, 3) := by decide +kernel
theorem dX11_taste_5 : decode cX11_taste 5 = .ok (.ifCond .eq 21, 3) := by decide +kernel
theorem dX11_taste_8 : decode cX11_taste 8 = .ok (.iload_n 2, 1) := by decide +kernel
theorem dX11_taste_9 : decode cX11_taste 9 = .ok (.invokestatic 86, 3) := by decide +kernel
theorem dX11_taste_12 : decode cX11_taste 12 = .ok (.ifCond .eq 14, 3) := by decide +kernel
theorem dX11_taste_15 : decode cX11_taste 15 = .ok (.iload_n 3, 1) := by decide +kernel
theorem dX11_taste_16 : decode cX11_taste 16 = .ok (.bipush (-9), 2) := by decide +kernel
theorem dX11_taste_18 : decode cX11_taste 18 = .ok (.bipush 9, 2) := by decide +kernel
theorem dX11_taste_20 : decode cX11_taste 20 = .ok (.invokestatic 90, 3) := by decide +kernel
theorem dX11_taste_23 : decode cX11_taste 23 = .ok (.ifCond .ne 5, 3) := by decide +kernel
theorem dX11_taste_26 : decode cX11_taste 26 = .ok (.iconst 0, 1) := by decide +kernel
theorem dX11_taste_27 : decode cX11_taste 27 = .ok (.ireturn, 1) := by decide +kernel
theorem dX11_taste_28 : decode cX11_taste 28 = .ok (.aload_n 0, 1) := by decide +kernel
theorem dX11_taste_29 : decode cX11_taste 29 = .ok (.getfield 10, 3) := by decide +kernel
theorem dX11_taste_32 : decode cX11_taste 32 = .ok (.getfield 114, 3) := by decide +kernel
theorem dX11_taste_35 : decode cX11_taste 35 = .ok (.iload_n 1, 1) := by decide +kernel
theorem dX11_taste_36 : decode cX11_taste 36 = .ok (.aaload, 1) := by decide +kernel
theorem dX11_taste_37 : decode cX11_taste 37 = .ok (.getfield 127, 3) := by decide +kernel
theorem dX11_taste_40 : decode cX11_taste 40 = .ok (.iload_n 2, 1) := by decide +kernel
theorem dX11_taste_41 : decode cX11_taste 41 = .ok (.iload_n 3, 1) := by decide +kernel
theorem dX11_taste_42 : decode cX11_taste 42 = .ok (.iastore, 1) := by decide +kernel
theorem dX11_taste_43 : decode cX11_taste 43 = .ok (.iconst 1, 1) := by decide +kernel
theorem dX11_taste_44 : decode cX11_taste 44 = .ok (.ireturn, 1) := by decide +kernel
theorem dX11_salt_0 : decode cX11_salt 0 = .ok (.iload_n 1, 1) := by decide +kernel
theorem dX11_salt_1 : decode cX11_salt 1 = .ok (.iconst (-1), 1) := by decide +kernel
theorem dX11_salt_2 : decode cX11_salt 2 = .ok (.if_icmp .ne 14, 3) := by decide +kernel
theorem dX11_salt_5 : decode cX11_salt 5 = .ok (.aload_n 0, 1) := by decide +kernel
theorem dX11_salt_6 : decode cX11_salt 6 = .ok (.getfield 10, 3) := by decide +kernel
theorem dX11_salt_9 : decode cX11_salt 9 = .ok (.iconst (-1), 1) := by decide +kernel
theorem dX11_salt_10 : decode cX11_salt 10 = .ok (.iconst (-1), 1) := by decide +kernel
theorem dX11_salt_11 : decode cX11_salt 11 = .ok (.invokevirtual 131, 3) := by decide +kernel
theorem dX11_salt_14 : decode cX11_salt 14 = .ok (.iconst 1, 1) := by decide +kernel
theorem dX11_salt_15 : decode cX11_salt 15 = .ok (.ireturn, 1) := by decide +kernel
theorem dX11_salt_16 : decode cX11_salt 16 = .ok (.aload_n 0, 1) := by decide +kernel
theorem dX11_salt_17 : decode cX11_salt 17 = .ok (.iload_n 1, 1) := by decide +kernel
theorem dX11_salt_18 : decode cX11_salt 18 = .ok (.invokevirtual 135, 3) := by decide +kernel
theorem dX11_salt_21 : decode cX11_salt 21 = .ok (.ifCond .eq 14, 3) := by decide +kernel
theorem dX11_salt_24 : decode cX11_salt 24 = .ok (.iload_n 2, 1) := by decide +kernel
theorem dX11_salt_25 : decode cX11_salt 25 = .ok (.iconst 0, 1) := by decide +kernel
theorem dX11_salt_26 : decode cX11_salt 26 = .ok (.sipush 999, 3) := by decide +kernel
theorem dX11_salt_29 : decode cX11_salt 29 = .ok (.invokestatic 90, 3) := by decide +kernel
theorem dX11_salt_32 : decode cX11_salt 32 = .ok (.ifCond .ne 5, 3) := by decide +kernel
theorem dX11_salt_35 : decode cX11_salt 35 = .ok (.iconst 0, 1) := by decide +kernel
theorem dX11_salt_36 : decode cX11_salt 36 = .ok (.ireturn, 1) := by decide +kernel
theorem dX11_salt_37 : decode cX11_salt 37 = .ok (.aload_n 0, 1) := by decide +kernel
theorem dX11_salt_38 : decode cX11_salt 38 = .ok (.getfield 10, 3) := by decide +kernel
theorem dX11_salt_41 : decode cX11_salt 41 = .ok (.iload_n 1, 1) := by decide +kernel
theorem dX11_salt_42 : decode cX11_salt 42 = .ok (.iload_n 2, 1) := by decide +kernel
theorem dX11_salt_43 : decode cX11_salt 43 = .ok (.invokevirtual 131, 3) := by decide +kernel
theorem dX11_salt_46 : decode cX11_salt 46 = .ok (.iconst 1, 1) := by decide +kernel
theorem dX11_salt_47 : decode cX11_salt 47 = .ok (.ireturn, 1) := by decide +kernel
theorem dX11_feed_0 : decode cX11_feed 0 = .ok (.aload_n 0, 1) := by decide +kernel
theorem dX11_feed_1 : decode cX11_feed 1 = .ok (.getfield 25, 3) := by decide +kernel
theorem dX11_feed_4 : decode cX11_feed 4 = .ok (.getfield 138, 3) := by decide +kernel
theorem dX11_feed_7 : decode cX11_feed 7 = .ok (.bipush 20, 2) := by decide +kernel
theorem dX11_feed_9 : decode cX11_feed 9 = .ok (.iadd, 1) := by decide +kernel
theorem dX11_feed_10 : decode cX11_feed 10 = .ok (.sipush 220, 3) := by decide +kernel
theorem dX11_feed_13 : decode cX11_feed 13 = .ok (.if_icmp .le 5, 3) := by decide +kernel
theorem dX11_feed_16 : decode cX11_feed 16 = .ok (.iconst (-1), 1) := by decide +kernel
theorem dX11_feed_17 : decode cX11_feed 17 = .ok (.ireturn, 1) := by decide +kernel
theorem dX11_feed_18 : decode cX11_feed 18 = .ok (.aload_n 0, 1) := by decide +kernel
theorem dX11_feed_19 : decode cX11_feed 19 = .ok (.getfield 25, 3) := by decide +kernel
theorem dX11_feed_22 : decode cX11_feed 22 = .ok (.iload_n 1, 1) := by decide +kernel
theorem dX11_feed_23 : decode cX11_feed 23 = .ok (.invokevirtual 141, 3) := by decide +kernel
theorem dX11_feed_26 : decode cX11_feed 26 = .ok (.aload_n 0, 1) := by decide +kernel
theorem dX11_feed_27 : decode cX11_feed 27 = .ok (.getfield 25, 3) := by decide +kernel
theorem dX11_feed_30 : decode cX11_feed 30 = .ok (.iload_n 2, 1) := by decide +kernel
theorem dX11_feed_31 : decode cX11_feed 31 = .ok (.invokevirtual 141, 3) := by decide +kernel
theorem dX11_feed_34 : decode cX11_feed 34 = .ok (.aload_n 0, 1) := by decide +kernel
theorem dX11_feed_35 : decode cX11_feed 35 = .ok (.getfield 25, 3) := by decide +kernel
theorem dX11_feed_38 : decode cX11_feed 38 = .ok (.iload_n 3, 1) := by decide +kernel
theorem dX11_feed_39 : decode cX11_feed 39 = .ok (.invokevirtual 141, 3) := by decide +kernel
theorem dX11_feed_42 : decode cX11_feed 42 = .ok (.aload_n 0, 1) := by decide +kernel
theorem dX11_feed_43 : decode cX11_feed 43 = .ok (.getfield 25, 3) := by decide +kernel
theorem dX11_feed_46 : decode cX11_feed 46 = .ok (.iload 4, 2) := by decide +kernel
theorem dX11_feed_48 : decode cX11_feed 48 = .ok (.invokevirtual 141, 3) := by decide +kernel
theorem dX11_feed_51 : decode cX11_feed 51 = .ok (.aload_n 0, 1) := by decide +kernel
theorem dX11_feed_52 : decode cX11_feed 52 = .ok (.getfield 25, 3) := by decide +kernel
theorem dX11_feed_55 : decode cX11_feed 55 = .ok (.iload 5, 2) := by decide +kernel
theorem dX11_feed_57 : decode cX11_feed 57 = .ok (.invokevirtual 141, 3) := by decide +kernel
theorem dX11_feed_60 : decode cX11_feed 60 = .ok (.aload_n 0, 1) := by decide +kernel
theorem dX11_feed_61 : decode cX11_feed 61 = .ok (.getfield 25, 3) := by decide +kernel
theorem dX11_feed_64 : decode cX11_feed 64 = .ok (.getfield 138, 3) := by decide +kernel
theorem dX11_feed_67 : decode cX11_feed 67 = .ok (.ireturn, 1) := by decide +kernel
theorem dX11_law_0 : decode cX11_law 0 = .ok (.iload_n 1, 1) := by decide +kernel
theorem dX11_law_1 : decode cX11_law 1 = .ok (.iconst 1, 1) := by decide +kernel
theorem dX11_law_2 : decode cX11_law 2 = .ok (.sipush 200, 3) := by decide +kernel
theorem dX11_law_5 : decode cX11_law 5 = .ok (.invokestatic 90, 3) := by decide +kernel
theorem dX11_law_8 : decode cX11_law 8 = .ok (.ifCond .eq 14, 3) := by decide +kernel
theorem dX11_law_11 : decode cX11_law 11 = .ok (.iload_n 1, 1) := by decide +kernel
theorem dX11_law_12 : decode cX11_law 12 = .ok (.aload_n 0, 1) := by decide +kernel
theorem dX11_law_13 : decode cX11_law 13 = .ok (.getfield 25, 3) := by decide +kernel
theorem dX11_law_16 : decode cX11_law 16 = .ok (.getfield 138, 3) := by decide +kernel
theorem dX11_law_19 : decode cX11_law 19 = .ok (.if_icmp .le 5, 3) := by decide +kernel
theorem dX11_law_22 : decode cX11_law 22 = .ok (.iconst (-1), 1) := by decide +kernel
theorem dX11_law_23 : decode cX11_law 23 = .ok (.ireturn, 1) := by decide +kernel
theorem dX11_law_24 : decode cX11_law 24 = .ok (.aload_n 0, 1) := by decide +kernel
theorem dX11_law_25 : decode cX11_law 25 = .ok (.getfield 34, 3) := by decide +kernel
theorem dX11_law_28 : decode cX11_law 28 = .ok (.aload_n 0, 1) := by decide +kernel
theorem dX11_law_29 : decode cX11_law 29 = .ok (.getfield 75, 3) := by decide +kernel
theorem dX11_law_32 : decode cX11_law 32 = .ok (.iload_n 1, 1) := by decide +kernel
theorem dX11_law_33 : decode cX11_law 33 = .ok (.invokevirtual 145, 3) := by decide +kernel
theorem dX11_law_36 : decode cX11_law 36 = .ok (.istore_n 2, 1) := by decide +kernel
theorem dX11_law_37 : decode cX11_law 37 = .ok (.aload_n 0, 1) := by decide +kernel
theorem dX11_law_38 : decode cX11_law 38 = .ok (.getfield 25, 3) := by decide +kernel
theorem dX11_law_41 : decode cX11_law 41 = .ok (.invokevirtual 149, 3) := by decide +kernel
theorem dX11_law_44 : decode cX11_law 44 = .ok (.iload_n 2, 1) := by decide +kernel
theorem dX11_law_45 : decode cX11_law 45 = .ok (.ifCond .le 21, 3) := by decide +kernel
theorem dX11_law_48 : decode cX11_law 48 = .ok (.aload_n 0, 1) := by decide +kernel
theorem dX11_law_49 : decode cX11_law 49 = .ok (.getfield 71, 3) := by decide +kernel
theorem dX11_law_52 : decode cX11_law 52 = .ok (.astore_n 3, 1) := by decide +kernel
theorem dX11_law_53 : decode cX11_law 53 = .ok (.aload_n 0, 1) := by decide +kernel
theorem dX11_law_54 : decode cX11_law 54 = .ok (.aload_n 0, 1) := by decide +kernel
theorem dX11_law_55 : decode cX11_law 55 = .ok (.getfield 75, 3) := by decide +kernel
theorem dX11_law_58 : decode cX11_law 58 = .ok (.putfield 71, 3) := by decide +kernel
theorem dX11_law_61 : decode cX11_law 61 = .ok (.aload_n 0, 1) := by decide +kernel
theorem dX11_law_62 : decode cX11_law 62 = .ok (.aload_n 3, 1) := by decide +kernel
theorem dX11_law_63 : decode cX11_law 63 = .ok (.putfield 75, 3) := by decide +kernel
theorem dX11_law_66 : decode cX11_law 66 = .ok (.iload_n 2, 1) := by decide +kernel
theorem dX11_law_67 : decode cX11_law 67 = .ok (.ireturn, 1) := by decide +kernel
theorem dX11_would_0 : decode cX11_would 0 = .ok (.aload_n 0, 1) := by decide +kernel
theorem dX11_would_1 : decode cX11_would 1 = .ok (.iload_n 1, 1) := by decide +kernel
theorem dX11_would_2 : decode cX11_would 2 = .ok (.invokevirtual 124, 3) := by decide +kernel
theorem dX11_would_5 : decode cX11_would 5 = .ok (.ifCond .eq 11, 3) := by decide +kernel
theorem dX11_would_8 : decode cX11_would 8 = .ok (.aload_n 0, 1) := by decide +kernel
theorem dX11_would_9 : decode cX11_would 9 = .ok (.iload_n 2, 1) := by decide +kernel
theorem dX11_would_10 : decode cX11_would 10 = .ok (.invokevirtual 135, 3) := by decide +kernel
theorem dX11_would_13 : decode cX11_would 13 = .ok (.ifCond .ne 5, 3) := by decide +kernel
theorem dX11_would_16 : decode cX11_would 16 = .ok (.iconst (-1), 1) := by decide +kernel
theorem dX11_would_17 : decode cX11_would 17 = .ok (.ireturn, 1) := by decide +kernel
theorem dX11_would_18 : decode cX11_would 18 = .ok (.aload_n 0, 1) := by decide +kernel
theorem dX11_would_19 : decode cX11_would 19 = .ok (.getfield 71, 3) := by decide +kernel
theorem dX11_would_22 : decode cX11_would 22 = .ok (.aload_n 0, 1) := by decide +kernel
theorem dX11_would_23 : decode cX11_would 23 = .ok (.getfield 10, 3) := by decide +kernel
theorem dX11_would_26 : decode cX11_would 26 = .ok (.iload_n 1, 1) := by decide +kernel
theorem dX11_would_27 : decode cX11_would 27 = .ok (.iload_n 2, 1) := by decide +kernel
theorem dX11_would_28 : decode cX11_would 28 = .ok (.invokevirtual 152, 3) := by decide +kernel
theorem dX11_would_31 : decode cX11_would 31 = .ok (.ireturn, 1) := by decide +kernel
theorem dX11_chooses_0 : decode cX11_chooses 0 = .ok (.aload_n 0, 1) := by decide +kernel
theorem dX11_chooses_1 : decode cX11_chooses 1 = .ok (.iload_n 1, 1) := by decide +kernel
theorem dX11_chooses_2 : decode cX11_chooses 2 = .ok (.invokevirtual 124, 3) := by decide +kernel
theorem dX11_chooses_5 : decode cX11_chooses 5 = .ok (.ifCond .ne 5, 3) := by decide +kernel
theorem dX11_chooses_8 : decode cX11_chooses 8 = .ok (.iconst (-1), 1) := by decide +kernel
theorem dX11_chooses_9 : decode cX11_chooses 9 = .ok (.ireturn, 1) := by decide +kernel
theorem dX11_chooses_10 : decode cX11_chooses 10 = .ok (.aload_n 0, 1) := by decide +kernel
theorem dX11_chooses_11 : decode cX11_chooses 11 = .ok (.getfield 10, 3) := by decide +kernel
theorem dX11_chooses_14 : decode cX11_chooses 14 = .ok (.invokevirtual 156, 3) := by decide +kernel
theorem dX11_chooses_17 : decode cX11_chooses 17 = .ok (.aload_n 0, 1) := by decide +kernel
theorem dX11_chooses_18 : decode cX11_chooses 18 = .ok (.getfield 10, 3) := by decide +kernel
theorem dX11_chooses_21 : decode cX11_chooses 21 = .ok (.aload_n 0, 1) := by decide +kernel
theorem dX11_chooses_22 : decode cX11_chooses 22 = .ok (.getfield 71, 3) := by decide +kernel
theorem dX11_chooses_25 : decode cX11_chooses 25 = .ok (.iload_n 1, 1) := by decide +kernel
theorem dX11_chooses_26 : decode cX11_chooses 26 = .ok (.invokevirtual 159, 3) := by decide +kernel
theorem dX11_chooses_29 : decode cX11_chooses 29 = .ok (.ireturn, 1) := by decide +kernel
theorem dX11_days_0 : decode cX11_days 0 = .ok (.iload_n 1, 1) := by decide +kernel
theorem dX11_days_1 : decode cX11_days 1 = .ok (.iconst 1, 1) := by decide +kernel
theorem dX11_days_2 : decode cX11_days 2 = .ok (.bipush 20, 2) := by decide +kernel
theorem dX11_days_4 : decode cX11_days 4 = .ok (.invokestatic 90, 3) := by decide +kernel
theorem dX11_days_7 : decode cX11_days 7 = .ok (.ifCond .ne 5, 3) := by decide +kernel
theorem dX11_days_10 : decode cX11_days 10 = .ok (.iconst (-1), 1) := by decide +kernel
theorem dX11_days_11 : decode cX11_days 11 = .ok (.ireturn, 1) := by decide +kernel
theorem dX11_days_12 : decode cX11_days 12 = .ok (.iconst 0, 1) := by decide +kernel
theorem dX11_days_13 : decode cX11_days 13 = .ok (.istore_n 2, 1) := by decide +kernel
theorem dX11_days_14 : decode cX11_days 14 = .ok (.aload_n 0, 1) := by decide +kernel
theorem dX11_days_15 : decode cX11_days 15 = .ok (.getfield 10, 3) := by decide +kernel
theorem dX11_days_18 : decode cX11_days 18 = .ok (.invokevirtual 156, 3) := by decide +kernel
theorem dX11_days_21 : decode cX11_days 21 = .ok (.iconst 0, 1) := by decide +kernel
theorem dX11_days_22 : decode cX11_days 22 = .ok (.istore_n 3, 1) := by decide +kernel
theorem dX11_days_23 : decode cX11_days 23 = .ok (.iload_n 3, 1) := by decide +kernel
theorem dX11_days_24 : decode cX11_days 24 = .ok (.iload_n 1, 1) := by decide +kernel
theorem dX11_days_25 : decode cX11_days 25 = .ok (.if_icmp .ge 23, 3) := by decide +kernel
theorem dX11_days_28 : decode cX11_days 28 = .ok (.iload_n 2, 1) := by decide +kernel
theorem dX11_days_29 : decode cX11_days 29 = .ok (.aload_n 0, 1) := by decide +kernel
theorem dX11_days_30 : decode cX11_days 30 = .ok (.getfield 10, 3) := by decide +kernel
theorem dX11_days_33 : decode cX11_days 33 = .ok (.aload_n 0, 1) := by decide +kernel
theorem dX11_days_34 : decode cX11_days 34 = .ok (.getfield 71, 3) := by decide +kernel
theorem dX11_days_37 : decode cX11_days 37 = .ok (.invokevirtual 162, 3) := by decide +kernel
theorem dX11_days_40 : decode cX11_days 40 = .ok (.iadd, 1) := by decide +kernel
theorem dX11_days_41 : decode cX11_days 41 = .ok (.istore_n 2, 1) := by decide +kernel
theorem dX11_days_42 : decode cX11_days 42 = .ok (.iinc 3 1, 3) := by decide +kernel
theorem dX11_days_45 : decode cX11_days 45 = .ok (.goto (-22), 3) := by decide +kernel
theorem dX11_days_48 : decode cX11_days 48 = .ok (.iload_n 2, 1) := by decide +kernel
theorem dX11_days_49 : decode cX11_days 49 = .ok (.ireturn, 1) := by decide +kernel
theorem dX11_run_0 : decode cX11_run 0 = .ok (.iload_n 2, 1) := by decide +kernel
theorem dX11_run_1 : decode cX11_run 1 = .ok (.bipush 10, 2) := by decide +kernel
theorem dX11_run_3 : decode cX11_run 3 = .ok (.if_icmp .lt 18, 3) := by decide +kernel
theorem dX11_run_6 : decode cX11_run 6 = .ok (.aload_n 0, 1) := by decide +kernel
theorem dX11_run_7 : decode cX11_run 7 = .ok (.iload_n 2, 1) := by decide +kernel
theorem dX11_run_8 : decode cX11_run 8 = .ok (.bipush 10, 2) := by decide +kernel
theorem dX11_run_10 : decode cX11_run 10 = .ok (.isub, 1) := by decide +kernel
theorem dX11_run_11 : decode cX11_run 11 = .ok (.invokevirtual 166, 3) := by decide +kernel
theorem dX11_run_14 : decode cX11_run 14 = .ok (.ifCond .eq 7, 3) := by decide +kernel
theorem dX11_run_17 : decode cX11_run 17 = .ok (.iconst 1, 1) := by decide +kernel
theorem dX11_run_18 : decode cX11_run 18 = .ok (.goto 4, 3) := by decide +kernel
theorem dX11_run_21 : decode cX11_run 21 = .ok (.iconst 0, 1) := by decide +kernel
theorem dX11_run_22 : decode cX11_run 22 = .ok (.istore_n 3, 1) := by decide +kernel
theorem dX11_run_23 : decode cX11_run 23 = .ok (.iload_n 1, 1) := by decide +kernel
theorem dX11_run_24 : decode cX11_run 24 = .ok (.iconst 1, 1) := by decide +kernel
theorem dX11_run_25 : decode cX11_run 25 = .ok (.bipush 20, 2) := by decide +kernel
theorem dX11_run_27 : decode cX11_run 27 = .ok (.invokestatic 90, 3) := by decide +kernel
theorem dX11_run_30 : decode cX11_run 30 = .ok (.ifCond .eq 17, 3) := by decide +kernel
theorem dX11_run_33 : decode cX11_run 33 = .ok (.iload_n 2, 1) := by decide +kernel
theorem dX11_run_34 : decode cX11_run 34 = .ok (.iconst 0, 1) := by decide +kernel
theorem dX11_run_35 : decode cX11_run 35 = .ok (.bipush 6, 2) := by decide +kernel
theorem dX11_run_37 : decode cX11_run 37 = .ok (.invokestatic 90, 3) := by decide +kernel
theorem dX11_run_40 : decode cX11_run 40 = .ok (.ifCond .ne 9, 3) := by decide +kernel
theorem dX11_run_43 : decode cX11_run 43 = .ok (.iload_n 3, 1) := by decide +kernel
theorem dX11_run_44 : decode cX11_run 44 = .ok (.ifCond .ne 5, 3) := by decide +kernel
theorem dX11_run_47 : decode cX11_run 47 = .ok (.iconst (-1), 1) := by decide +kernel
theorem dX11_run_48 : decode cX11_run 48 = .ok (.ireturn, 1) := by decide +kernel
theorem dX11_run_49 : decode cX11_run 49 = .ok (.aload_n 0, 1) := by decide +kernel
theorem dX11_run_50 : decode cX11_run 50 = .ok (.getfield 19, 3) := by decide +kernel
theorem dX11_run_53 : decode cX11_run 53 = .ok (.invokevirtual 156, 3) := by decide +kernel
theorem dX11_run_56 : decode cX11_run 56 = .ok (.aload_n 0, 1) := by decide +kernel
theorem dX11_run_57 : decode cX11_run 57 = .ok (.getfield 19, 3) := by decide +kernel
theorem dX11_run_60 : decode cX11_run 60 = .ok (.aload_n 0, 1) := by decide +kernel
theorem dX11_run_61 : decode cX11_run 61 = .ok (.getfield 10, 3) := by decide +kernel
theorem dX11_run_64 : decode cX11_run 64 = .ok (.invokevirtual 169, 3) := by decide +kernel
theorem dX11_run_67 : decode cX11_run 67 = .ok (.iconst 0, 1) := by decide +kernel
theorem dX11_run_68 : decode cX11_run 68 = .ok (.istore 4, 2) := by decide +kernel
theorem dX11_run_70 : decode cX11_run 70 = .ok (.iload 4, 2) := by decide +kernel
theorem dX11_run_72 : decode cX11_run 72 = .ok (.iload_n 1, 1) := by decide +kernel
theorem dX11_run_73 : decode cX11_run 73 = .ok (.if_icmp .ge 21, 3) := by decide +kernel
theorem dX11_run_76 : decode cX11_run 76 = .ok (.aload_n 0, 1) := by decide +kernel
theorem dX11_run_77 : decode cX11_run 77 = .ok (.getfield 19, 3) := by decide +kernel
theorem dX11_run_80 : decode cX11_run 80 = .ok (.aload_n 0, 1) := by decide +kernel
theorem dX11_run_81 : decode cX11_run 81 = .ok (.getfield 71, 3) := by decide +kernel
theorem dX11_run_84 : decode cX11_run 84 = .ok (.invokevirtual 162, 3) := by decide +kernel
theorem dX11_run_87 : decode cX11_run 87 = .ok (.pop, 1) := by decide +kernel
theorem dX11_run_88 : decode cX11_run 88 = .ok (.iinc 4 1, 3) := by decide +kernel
theorem dX11_run_91 : decode cX11_run 91 = .ok (.goto (-21), 3) := by decide +kernel
theorem dX11_run_94 : decode cX11_run 94 = .ok (.iload_n 3, 1) := by decide +kernel
theorem dX11_run_95 : decode cX11_run 95 = .ok (.ifCond .eq 19, 3) := by decide +kernel
theorem dX11_run_98 : decode cX11_run 98 = .ok (.aload_n 0, 1) := by decide +kernel
theorem dX11_run_99 : decode cX11_run 99 = .ok (.getfield 19, 3) := by decide +kernel
theorem dX11_run_102 : decode cX11_run 102 = .ok (.getfield 101, 3) := by decide +kernel
theorem dX11_run_105 : decode cX11_run 105 = .ok (.iload_n 2, 1) := by decide +kernel
theorem dX11_run_106 : decode cX11_run 106 = .ok (.bipush 10, 2) := by decide +kernel
theorem dX11_run_108 : decode cX11_run 108 = .ok (.isub, 1) := by decide +kernel
theorem dX11_run_109 : decode cX11_run 109 = .ok (.aaload, 1) := by decide +kernel
theorem dX11_run_110 : decode cX11_run 110 = .ok (.getfield 172, 3) := by decide +kernel
theorem dX11_run_113 : decode cX11_run 113 = .ok (.ireturn, 1) := by decide +kernel
theorem dX11_run_114 : decode cX11_run 114 = .ok (.iload_n 2, 1) := by decide +kernel
theorem dX11_run_115 : decode cX11_run 115 = .ok (.bipush 6, 2) := by decide +kernel
theorem dX11_run_117 : decode cX11_run 117 = .ok (.if_icmp .ne 19, 3) := by decide +kernel
theorem dX11_run_120 : decode cX11_run 120 = .ok (.aload_n 0, 1) := by decide +kernel
theorem dX11_run_121 : decode cX11_run 121 = .ok (.getfield 10, 3) := by decide +kernel
theorem dX11_run_124 : decode cX11_run 124 = .ok (.invokevirtual 175, 3) := by decide +kernel
theorem dX11_run_127 : decode cX11_run 127 = .ok (.aload_n 0, 1) := by decide +kernel
theorem dX11_run_128 : decode cX11_run 128 = .ok (.getfield 19, 3) := by decide +kernel
theorem dX11_run_131 : decode cX11_run 131 = .ok (.invokevirtual 175, 3) := by decide +kernel
theorem dX11_run_134 : decode cX11_run 134 = .ok (.isub, 1) := by decide +kernel
theorem dX11_run_135 : decode cX11_run 135 = .ok (.ireturn, 1) := by decide +kernel
theorem dX11_run_136 : decode cX11_run 136 = .ok (.iload_n 2, 1) := by decide +kernel
theorem dX11_run_137 : decode cX11_run 137 = .ok (.iconst 5, 1) := by decide +kernel
theorem dX11_run_138 : decode cX11_run 138 = .ok (.if_icmp .ne 13, 3) := by decide +kernel
theorem dX11_run_141 : decode cX11_run 141 = .ok (.aload_n 0, 1) := by decide +kernel
theorem dX11_run_142 : decode cX11_run 142 = .ok (.getfield 19, 3) := by decide +kernel
theorem dX11_run_145 : decode cX11_run 145 = .ok (.invokevirtual 179, 3) := by decide +kernel
theorem dX11_run_148 : decode cX11_run 148 = .ok (.goto 12, 3) := by decide +kernel
theorem dX11_run_151 : decode cX11_run 151 = .ok (.aload_n 0, 1) := by decide +kernel
theorem dX11_run_152 : decode cX11_run 152 = .ok (.getfield 19, 3) := by decide +kernel
theorem dX11_run_155 : decode cX11_run 155 = .ok (.getfield 182, 3) := by decide +kernel
theorem dX11_run_158 : decode cX11_run 158 = .ok (.iload_n 2, 1) := by decide +kernel
theorem dX11_run_159 : decode cX11_run 159 = .ok (.iaload, 1) := by decide +kernel
theorem dX11_run_160 : decode cX11_run 160 = .ok (.ireturn, 1) := by decide +kernel
theorem dX11_stackIs_0 : decode cX11_stackIs 0 = .ok (.aload_n 0, 1) := by decide +kernel
theorem dX11_stackIs_1 : decode cX11_stackIs 1 = .ok (.iload_n 1, 1) := by decide +kernel
theorem dX11_stackIs_2 : decode cX11_stackIs 2 = .ok (.invokevirtual 166, 3) := by decide +kernel
theorem dX11_stackIs_5 : decode cX11_stackIs 5 = .ok (.ifCond .ne 5, 3) := by decide +kernel
theorem dX11_stackIs_8 : decode cX11_stackIs 8 = .ok (.iconst (-1), 1) := by decide +kernel
theorem dX11_stackIs_9 : decode cX11_stackIs 9 = .ok (.ireturn, 1) := by decide +kernel
theorem dX11_stackIs_10 : decode cX11_stackIs 10 = .ok (.aload_n 0, 1) := by decide +kernel
theorem dX11_stackIs_11 : decode cX11_stackIs 11 = .ok (.getfield 10, 3) := by decide +kernel
theorem dX11_stackIs_14 : decode cX11_stackIs 14 = .ok (.getfield 101, 3) := by decide +kernel
theorem dX11_stackIs_17 : decode cX11_stackIs 17 = .ok (.iload_n 1, 1) := by decide +kernel
theorem dX11_stackIs_18 : decode cX11_stackIs 18 = .ok (.aaload, 1) := by decide +kernel
theorem dX11_stackIs_19 : decode cX11_stackIs 19 = .ok (.astore_n 3, 1) := by decide +kernel
theorem dX11_stackIs_20 : decode cX11_stackIs 20 = .ok (.iload_n 2, 1) := by decide +kernel
theorem dX11_stackIs_21 : decode cX11_stackIs 21 = .ok (.tableswitch 94 0 6 #[43, 56, 61, 66, 71, 76, 81], 43) := by decide +kernel
theorem dX11_stackIs_64 : decode cX11_stackIs 64 = .ok (.bipush 10, 2) := by decide +kernel
theorem dX11_stackIs_66 : decode cX11_stackIs 66 = .ok (.aload_n 3, 1) := by decide +kernel
theorem dX11_stackIs_67 : decode cX11_stackIs 67 = .ok (.getfield 185, 3) := by decide +kernel
theorem dX11_stackIs_70 : decode cX11_stackIs 70 = .ok (.imul, 1) := by decide +kernel
theorem dX11_stackIs_71 : decode cX11_stackIs 71 = .ok (.aload_n 3, 1) := by decide +kernel
theorem dX11_stackIs_72 : decode cX11_stackIs 72 = .ok (.getfield 188, 3) := by decide +kernel
theorem dX11_stackIs_75 : decode cX11_stackIs 75 = .ok (.iadd, 1) := by decide +kernel
theorem dX11_stackIs_76 : decode cX11_stackIs 76 = .ok (.ireturn, 1) := by decide +kernel
theorem dX11_stackIs_77 : decode cX11_stackIs 77 = .ok (.aload_n 3, 1) := by decide +kernel
theorem dX11_stackIs_78 : decode cX11_stackIs 78 = .ok (.getfield 191, 3) := by decide +kernel
theorem dX11_stackIs_81 : decode cX11_stackIs 81 = .ok (.ireturn, 1) := by decide +kernel
theorem dX11_stackIs_82 : decode cX11_stackIs 82 = .ok (.aload_n 3, 1) := by decide +kernel
theorem dX11_stackIs_83 : decode cX11_stackIs 83 = .ok (.getfield 172, 3) := by decide +kernel
theorem dX11_stackIs_86 : decode cX11_stackIs 86 = .ok (.ireturn, 1) := by decide +kernel
theorem dX11_stackIs_87 : decode cX11_stackIs 87 = .ok (.aload_n 3, 1) := by decide +kernel
theorem dX11_stackIs_88 : decode cX11_stackIs 88 = .ok (.getfield 194, 3) := by decide +kernel
theorem dX11_stackIs_91 : decode cX11_stackIs 91 = .ok (.ireturn, 1) := by decide +kernel
theorem dX11_stackIs_92 : decode cX11_stackIs 92 = .ok (.aload_n 3, 1) := by decide +kernel
theorem dX11_stackIs_93 : decode cX11_stackIs 93 = .ok (.getfield 197, 3) := by decide +kernel
theorem dX11_stackIs_96 : decode cX11_stackIs 96 = .ok (.ireturn, 1) := by decide +kernel
theorem dX11_stackIs_97 : decode cX11_stackIs 97 = .ok (.aload_n 3, 1) := by decide +kernel
theorem dX11_stackIs_98 : decode cX11_stackIs 98 = .ok (.getfield 200, 3) := by decide +kernel
theorem dX11_stackIs_101 : decode cX11_stackIs 101 = .ok (.ireturn, 1) := by decide +kernel
theorem dX11_stackIs_102 : decode cX11_stackIs 102 = .ok (.aload_n 3, 1) := by decide +kernel
theorem dX11_stackIs_103 : decode cX11_stackIs 103 = .ok (.getfield 203, 3) := by decide +kernel
theorem dX11_stackIs_106 : decode cX11_stackIs 106 = .ok (.ifCond .eq 7, 3) := by decide +kernel
theorem dX11_stackIs_109 : decode cX11_stackIs 109 = .ok (.iconst 1, 1) := by decide +kernel
theorem dX11_stackIs_110 : decode cX11_stackIs 110 = .ok (.goto 4, 3) := by decide +kernel
theorem dX11_stackIs_113 : decode cX11_stackIs 113 = .ok (.iconst 0, 1) := by decide +kernel
theorem dX11_stackIs_114 : decode cX11_stackIs 114 = .ok (.ireturn, 1) := by decide +kernel
theorem dX11_stackIs_115 : decode cX11_stackIs 115 = .ok (.iconst (-1), 1) := by decide +kernel
theorem dX11_stackIs_116 : decode cX11_stackIs 116 = .ok (.ireturn, 1) := by decide +kernel
theorem dX11_cowIs_0 : decode cX11_cowIs 0 = .ok (.aload_n 0, 1) := by decide +kernel
theorem dX11_cowIs_1 : decode cX11_cowIs 1 = .ok (.iload_n 1, 1) := by decide +kernel
theorem dX11_cowIs_2 : decode cX11_cowIs 2 = .ok (.invokevirtual 124, 3) := by decide +kernel
theorem dX11_cowIs_5 : decode cX11_cowIs 5 = .ok (.ifCond .ne 7, 3) := by decide +kernel
theorem dX11_cowIs_8 : decode cX11_cowIs 8 = .ok (.sipush (-1000), 3) := by decide +kernel
theorem dX11_cowIs_11 : decode cX11_cowIs 11 = .ok (.ireturn, 1) := by decide +kernel
theorem dX11_cowIs_12 : decode cX11_cowIs 12 = .ok (.aload_n 0, 1) := by decide +kernel
theorem dX11_cowIs_13 : decode cX11_cowIs 13 = .ok (.getfield 10, 3) := by decide +kernel
theorem dX11_cowIs_16 : decode cX11_cowIs 16 = .ok (.getfield 114, 3) := by decide +kernel
theorem dX11_cowIs_19 : decode cX11_cowIs 19 = .ok (.iload_n 1, 1) := by decide +kernel
theorem dX11_cowIs_20 : decode cX11_cowIs 20 = .ok (.aaload, 1) := by decide +kernel
theorem dX11_cowIs_21 : decode cX11_cowIs 21 = .ok (.astore_n 3, 1) := by decide +kernel
theorem dX11_cowIs_22 : decode cX11_cowIs 22 = .ok (.iload_n 2, 1) := by decide +kernel
theorem dX11_cowIs_23 : decode cX11_cowIs 23 = .ok (.tableswitch 57 0 3 #[29, 42, 47, 52], 29) := by decide +kernel
theorem dX11_cowIs_52 : decode cX11_cowIs 52 = .ok (.bipush 10, 2) := by decide +kernel
theorem dX11_cowIs_54 : decode cX11_cowIs 54 = .ok (.aload_n 3, 1) := by decide +kernel
theorem dX11_cowIs_55 : decode cX11_cowIs 55 = .ok (.getfield 206, 3) := by decide +kernel
theorem dX11_cowIs_58 : decode cX11_cowIs 58 = .ok (.imul, 1) := by decide +kernel
theorem dX11_cowIs_59 : decode cX11_cowIs 59 = .ok (.aload_n 3, 1) := by decide +kernel
theorem dX11_cowIs_60 : decode cX11_cowIs 60 = .ok (.getfield 207, 3) := by decide +kernel
theorem dX11_cowIs_63 : decode cX11_cowIs 63 = .ok (.iadd, 1) := by decide +kernel
theorem dX11_cowIs_64 : decode cX11_cowIs 64 = .ok (.ireturn, 1) := by decide +kernel
theorem dX11_cowIs_65 : decode cX11_cowIs 65 = .ok (.aload_n 3, 1) := by decide +kernel
theorem dX11_cowIs_66 : decode cX11_cowIs 66 = .ok (.getfield 208, 3) := by decide +kernel
theorem dX11_cowIs_69 : decode cX11_cowIs 69 = .ok (.ireturn, 1) := by decide +kernel
theorem dX11_cowIs_70 : decode cX11_cowIs 70 = .ok (.aload_n 3, 1) := by decide +kernel
theorem dX11_cowIs_71 : decode cX11_cowIs 71 = .ok (.getfield 211, 3) := by decide +kernel
theorem dX11_cowIs_74 : decode cX11_cowIs 74 = .ok (.ireturn, 1) := by decide +kernel
theorem dX11_cowIs_75 : decode cX11_cowIs 75 = .ok (.aload_n 3, 1) := by decide +kernel
theorem dX11_cowIs_76 : decode cX11_cowIs 76 = .ok (.getfield 214, 3) := by decide +kernel
theorem dX11_cowIs_79 : decode cX11_cowIs 79 = .ok (.ireturn, 1) := by decide +kernel
theorem dX11_cowIs_80 : decode cX11_cowIs 80 = .ok (.iload_n 2, 1) := by decide +kernel
theorem dX11_cowIs_81 : decode cX11_cowIs 81 = .ok (.bipush 10, 2) := by decide +kernel
theorem dX11_cowIs_83 : decode cX11_cowIs 83 = .ok (.bipush 14, 2) := by decide +kernel
theorem dX11_cowIs_85 : decode cX11_cowIs 85 = .ok (.invokestatic 90, 3) := by decide +kernel
theorem dX11_cowIs_88 : decode cX11_cowIs 88 = .ok (.ifCond .eq 15, 3) := by decide +kernel
theorem dX11_cowIs_91 : decode cX11_cowIs 91 = .ok (.aload_n 3, 1) := by decide +kernel
theorem dX11_cowIs_92 : decode cX11_cowIs 92 = .ok (.getfield 127, 3) := by decide +kernel
theorem dX11_cowIs_95 : decode cX11_cowIs 95 = .ok (.iload_n 2, 1) := by decide +kernel
theorem dX11_cowIs_96 : decode cX11_cowIs 96 = .ok (.bipush 10, 2) := by decide +kernel
theorem dX11_cowIs_98 : decode cX11_cowIs 98 = .ok (.isub, 1) := by decide +kernel
theorem dX11_cowIs_99 : decode cX11_cowIs 99 = .ok (.iaload, 1) := by decide +kernel
theorem dX11_cowIs_100 : decode cX11_cowIs 100 = .ok (.goto 6, 3) := by decide +kernel
theorem dX11_cowIs_103 : decode cX11_cowIs 103 = .ok (.sipush (-1000), 3) := by decide +kernel
theorem dX11_cowIs_106 : decode cX11_cowIs 106 = .ok (.ireturn, 1) := by decide +kernel
theorem dX11_eaten_0 : decode cX11_eaten 0 = .ok (.iload_n 1, 1) := by decide +kernel
theorem dX11_eaten_1 : decode cX11_eaten 1 = .ok (.iconst (-1), 1) := by decide +kernel
theorem dX11_eaten_2 : decode cX11_eaten 2 = .ok (.if_icmp .eq 11, 3) := by decide +kernel
theorem dX11_eaten_5 : decode cX11_eaten 5 = .ok (.aload_n 0, 1) := by decide +kernel
theorem dX11_eaten_6 : decode cX11_eaten 6 = .ok (.iload_n 1, 1) := by decide +kernel
theorem dX11_eaten_7 : decode cX11_eaten 7 = .ok (.invokevirtual 166, 3) := by decide +kernel
theorem dX11_eaten_10 : decode cX11_eaten 10 = .ok (.ifCond .eq 16, 3) := by decide +kernel
theorem dX11_eaten_13 : decode cX11_eaten 13 = .ok (.iload_n 2, 1) := by decide +kernel
theorem dX11_eaten_14 : decode cX11_eaten 14 = .ok (.iconst (-1), 1) := by decide +kernel
theorem dX11_eaten_15 : decode cX11_eaten 15 = .ok (.if_icmp .eq 14, 3) := by decide +kernel
theorem dX11_eaten_18 : decode cX11_eaten 18 = .ok (.aload_n 0, 1) := by decide +kernel
theorem dX11_eaten_19 : decode cX11_eaten 19 = .ok (.iload_n 2, 1) := by decide +kernel
theorem dX11_eaten_20 : decode cX11_eaten 20 = .ok (.invokevirtual 124, 3) := by decide +kernel
theorem dX11_eaten_23 : decode cX11_eaten 23 = .ok (.ifCond .ne 6, 3) := by decide +kernel
theorem dX11_eaten_26 : decode cX11_eaten 26 = .ok (.bipush (-2), 2) := by decide +kernel
theorem dX11_eaten_28 : decode cX11_eaten 28 = .ok (.ireturn, 1) := by decide +kernel
theorem dX11_eaten_29 : decode cX11_eaten 29 = .ok (.iload_n 1, 1) := by decide +kernel
theorem dX11_eaten_30 : decode cX11_eaten 30 = .ok (.iconst (-1), 1) := by decide +kernel
theorem dX11_eaten_31 : decode cX11_eaten 31 = .ok (.if_icmp .ne 7, 3) := by decide +kernel
theorem dX11_eaten_34 : decode cX11_eaten 34 = .ok (.iconst 0, 1) := by decide +kernel
theorem dX11_eaten_35 : decode cX11_eaten 35 = .ok (.goto 4, 3) := by decide +kernel
theorem dX11_eaten_38 : decode cX11_eaten 38 = .ok (.iload_n 1, 1) := by decide +kernel
theorem dX11_eaten_39 : decode cX11_eaten 39 = .ok (.istore_n 3, 1) := by decide +kernel
theorem dX11_eaten_40 : decode cX11_eaten 40 = .ok (.iload_n 1, 1) := by decide +kernel
theorem dX11_eaten_41 : decode cX11_eaten 41 = .ok (.iconst (-1), 1) := by decide +kernel
theorem dX11_eaten_42 : decode cX11_eaten 42 = .ok (.if_icmp .ne 15, 3) := by decide +kernel
theorem dX11_eaten_45 : decode cX11_eaten 45 = .ok (.aload_n 0, 1) := by decide +kernel
theorem dX11_eaten_46 : decode cX11_eaten 46 = .ok (.getfield 10, 3) := by decide +kernel
theorem dX11_eaten_49 : decode cX11_eaten 49 = .ok (.getfield 94, 3) := by decide +kernel
theorem dX11_eaten_52 : decode cX11_eaten 52 = .ok (.iconst 1, 1) := by decide +kernel
theorem dX11_eaten_53 : decode cX11_eaten 53 = .ok (.isub, 1) := by decide +kernel
theorem dX11_eaten_54 : decode cX11_eaten 54 = .ok (.goto 4, 3) := by decide +kernel
theorem dX11_eaten_57 : decode cX11_eaten 57 = .ok (.iload_n 1, 1) := by decide +kernel
theorem dX11_eaten_58 : decode cX11_eaten 58 = .ok (.istore 4, 2) := by decide +kernel
theorem dX11_eaten_60 : decode cX11_eaten 60 = .ok (.iload_n 2, 1) := by decide +kernel
theorem dX11_eaten_61 : decode cX11_eaten 61 = .ok (.iconst (-1), 1) := by decide +kernel
theorem dX11_eaten_62 : decode cX11_eaten 62 = .ok (.if_icmp .ne 7, 3) := by decide +kernel
theorem dX11_eaten_65 : decode cX11_eaten 65 = .ok (.iconst 0, 1) := by decide +kernel
theorem dX11_eaten_66 : decode cX11_eaten 66 = .ok (.goto 4, 3) := by decide +kernel
theorem dX11_eaten_69 : decode cX11_eaten 69 = .ok (.iload_n 2, 1) := by decide +kernel
theorem dX11_eaten_70 : decode cX11_eaten 70 = .ok (.istore 5, 2) := by decide +kernel
theorem dX11_eaten_72 : decode cX11_eaten 72 = .ok (.iload_n 2, 1) := by decide +kernel
theorem dX11_eaten_73 : decode cX11_eaten 73 = .ok (.iconst (-1), 1) := by decide +kernel
theorem dX11_eaten_74 : decode cX11_eaten 74 = .ok (.if_icmp .ne 15, 3) := by decide +kernel
theorem dX11_eaten_77 : decode cX11_eaten 77 = .ok (.aload_n 0, 1) := by decide +kernel
theorem dX11_eaten_78 : decode cX11_eaten 78 = .ok (.getfield 10, 3) := by decide +kernel
theorem dX11_eaten_81 : decode cX11_eaten 81 = .ok (.getfield 111, 3) := by decide +kernel
theorem dX11_eaten_84 : decode cX11_eaten 84 = .ok (.iconst 1, 1) := by decide +kernel
theorem dX11_eaten_85 : decode cX11_eaten 85 = .ok (.isub, 1) := by decide +kernel
theorem dX11_eaten_86 : decode cX11_eaten 86 = .ok (.goto 4, 3) := by decide +kernel
theorem dX11_eaten_89 : decode cX11_eaten 89 = .ok (.iload_n 2, 1) := by decide +kernel
theorem dX11_eaten_90 : decode cX11_eaten 90 = .ok (.istore 6, 2) := by decide +kernel
theorem dX11_eaten_92 : decode cX11_eaten 92 = .ok (.iconst 0, 1) := by decide +kernel
theorem dX11_eaten_93 : decode cX11_eaten 93 = .ok (.istore 7, 2) := by decide +kernel
theorem dX11_eaten_95 : decode cX11_eaten 95 = .ok (.iload_n 3, 1) := by decide +kernel
theorem dX11_eaten_96 : decode cX11_eaten 96 = .ok (.istore 8, 2) := by decide +kernel
theorem dX11_eaten_98 : decode cX11_eaten 98 = .ok (.iload 8, 2) := by decide +kernel
theorem dX11_eaten_100 : decode cX11_eaten 100 = .ok (.iload 4, 2) := by decide +kernel
theorem dX11_eaten_102 : decode cX11_eaten 102 = .ok (.if_icmp .gt 47, 3) := by decide +kernel
theorem dX11_eaten_105 : decode cX11_eaten 105 = .ok (.iload 5, 2) := by decide +kernel
theorem dX11_eaten_107 : decode cX11_eaten 107 = .ok (.istore 9, 2) := by decide +kernel
theorem dX11_eaten_109 : decode cX11_eaten 109 = .ok (.iload 9, 2) := by decide +kernel
theorem dX11_eaten_111 : decode cX11_eaten 111 = .ok (.iload 6, 2) := by decide +kernel
theorem dX11_eaten_113 : decode cX11_eaten 113 = .ok (.if_icmp .gt 30, 3) := by decide +kernel
theorem dX11_eaten_116 : decode cX11_eaten 116 = .ok (.iload 7, 2) := by decide +kernel
theorem dX11_eaten_118 : decode cX11_eaten 118 = .ok (.aload_n 0, 1) := by decide +kernel
theorem dX11_eaten_119 : decode cX11_eaten 119 = .ok (.getfield 10, 3) := by decide +kernel
theorem dX11_eaten_122 : decode cX11_eaten 122 = .ok (.getfield 101, 3) := by decide +kernel
theorem dX11_eaten_125 : decode cX11_eaten 125 = .ok (.iload 8, 2) := by decide +kernel
theorem dX11_eaten_127 : decode cX11_eaten 127 = .ok (.aaload, 1) := by decide +kernel
theorem dX11_eaten_128 : decode cX11_eaten 128 = .ok (.getfield 217, 3) := by decide +kernel
theorem dX11_eaten_131 : decode cX11_eaten 131 = .ok (.iload 9, 2) := by decide +kernel
theorem dX11_eaten_133 : decode cX11_eaten 133 = .ok (.iaload, 1) := by decide +kernel
theorem dX11_eaten_134 : decode cX11_eaten 134 = .ok (.iadd, 1) := by decide +kernel
theorem dX11_eaten_135 : decode cX11_eaten 135 = .ok (.istore 7, 2) := by decide +kernel
theorem dX11_eaten_137 : decode cX11_eaten 137 = .ok (.iinc 9 1, 3) := by decide +kernel
theorem dX11_eaten_140 : decode cX11_eaten 140 = .ok (.goto (-31), 3) := by decide +kernel
theorem dX11_eaten_143 : decode cX11_eaten 143 = .ok (.iinc 8 1, 3) := by decide +kernel
theorem dX11_eaten_146 : decode cX11_eaten 146 = .ok (.goto (-48), 3) := by decide +kernel
theorem dX11_eaten_149 : decode cX11_eaten 149 = .ok (.iload 7, 2) := by decide +kernel
theorem dX11_eaten_151 : decode cX11_eaten 151 = .ok (.ireturn, 1) := by decide +kernel
theorem dX11_votes_0 : decode cX11_votes 0 = .ok (.iload_n 1, 1) := by decide +kernel
theorem dX11_votes_1 : decode cX11_votes 1 = .ok (.invokestatic 86, 3) := by decide +kernel
theorem dX11_votes_4 : decode cX11_votes 4 = .ok (.ifCond .eq 15, 3) := by decide +kernel
theorem dX11_votes_7 : decode cX11_votes 7 = .ok (.aload_n 0, 1) := by decide +kernel
theorem dX11_votes_8 : decode cX11_votes 8 = .ok (.getfield 10, 3) := by decide +kernel
theorem dX11_votes_11 : decode cX11_votes 11 = .ok (.getfield 182, 3) := by decide +kernel
theorem dX11_votes_14 : decode cX11_votes 14 = .ok (.iload_n 1, 1) := by decide +kernel
theorem dX11_votes_15 : decode cX11_votes 15 = .ok (.iaload, 1) := by decide +kernel
theorem dX11_votes_16 : decode cX11_votes 16 = .ok (.goto 4, 3) := by decide +kernel
theorem dX11_votes_19 : decode cX11_votes 19 = .ok (.iconst (-1), 1) := by decide +kernel
theorem dX11_votes_20 : decode cX11_votes 20 = .ok (.ireturn, 1) := by decide +kernel
theorem dX11_campaign_0 : decode cX11_campaign 0 = .ok (.iload_n 1, 1) := by decide +kernel
theorem dX11_campaign_1 : decode cX11_campaign 1 = .ok (.invokestatic 86, 3) := by decide +kernel
theorem dX11_campaign_4 : decode cX11_campaign 4 = .ok (.ifCond .eq 22, 3) := by decide +kernel
theorem dX11_campaign_7 : decode cX11_campaign 7 = .ok (.iload_n 2, 1) := by decide +kernel
theorem dX11_campaign_8 : decode cX11_campaign 8 = .ok (.iconst 1, 1) := by decide +kernel
theorem dX11_campaign_9 : decode cX11_campaign 9 = .ok (.bipush 6, 2) := by decide +kernel
theorem dX11_campaign_11 : decode cX11_campaign 11 = .ok (.invokestatic 90, 3) := by decide +kernel
theorem dX11_campaign_14 : decode cX11_campaign 14 = .ok (.ifCond .eq 12, 3) := by decide +kernel
theorem dX11_campaign_17 : decode cX11_campaign 17 = .ok (.iload_n 3, 1) := by decide +kernel
theorem dX11_campaign_18 : decode cX11_campaign 18 = .ok (.iconst (-1), 1) := by decide +kernel
theorem dX11_campaign_19 : decode cX11_campaign 19 = .ok (.iconst 4, 1) := by decide +kernel
theorem dX11_campaign_20 : decode cX11_campaign 20 = .ok (.invokestatic 90, 3) := by decide +kernel
theorem dX11_campaign_23 : decode cX11_campaign 23 = .ok (.ifCond .ne 6, 3) := by decide +kernel
theorem dX11_campaign_26 : decode cX11_campaign 26 = .ok (.bipush (-3), 2) := by decide +kernel
theorem dX11_campaign_28 : decode cX11_campaign 28 = .ok (.ireturn, 1) := by decide +kernel
theorem dX11_campaign_29 : decode cX11_campaign 29 = .ok (.aload_n 0, 1) := by decide +kernel
theorem dX11_campaign_30 : decode cX11_campaign 30 = .ok (.getfield 43, 3) := by decide +kernel
theorem dX11_campaign_33 : decode cX11_campaign 33 = .ok (.aload_n 0, 1) := by decide +kernel
theorem dX11_campaign_34 : decode cX11_campaign 34 = .ok (.getfield 10, 3) := by decide +kernel
theorem dX11_campaign_37 : decode cX11_campaign 37 = .ok (.iload_n 1, 1) := by decide +kernel
theorem dX11_campaign_38 : decode cX11_campaign 38 = .ok (.invokevirtual 220, 3) := by decide +kernel
theorem dX11_campaign_41 : decode cX11_campaign 41 = .ok (.iload_n 3, 1) := by decide +kernel
theorem dX11_campaign_42 : decode cX11_campaign 42 = .ok (.iconst (-1), 1) := by decide +kernel
theorem dX11_campaign_43 : decode cX11_campaign 43 = .ok (.if_icmp .eq 12, 3) := by decide +kernel
theorem dX11_campaign_46 : decode cX11_campaign 46 = .ok (.iload_n 3, 1) := by decide +kernel
theorem dX11_campaign_47 : decode cX11_campaign 47 = .ok (.iconst 4, 1) := by decide +kernel
theorem dX11_campaign_48 : decode cX11_campaign 48 = .ok (.if_icmp .eq 7, 3) := by decide +kernel
theorem dX11_campaign_51 : decode cX11_campaign 51 = .ok (.iconst 1, 1) := by decide +kernel
theorem dX11_campaign_52 : decode cX11_campaign 52 = .ok (.goto 4, 3) := by decide +kernel
theorem dX11_campaign_55 : decode cX11_campaign 55 = .ok (.iconst 0, 1) := by decide +kernel
theorem dX11_campaign_56 : decode cX11_campaign 56 = .ok (.istore 4, 2) := by decide +kernel
theorem dX11_campaign_58 : decode cX11_campaign 58 = .ok (.iload 4, 2) := by decide +kernel
theorem dX11_campaign_60 : decode cX11_campaign 60 = .ok (.ifCond .eq 17, 3) := by decide +kernel
theorem dX11_campaign_63 : decode cX11_campaign 63 = .ok (.iload_n 3, 1) := by decide +kernel
theorem dX11_campaign_64 : decode cX11_campaign 64 = .ok (.aload_n 0, 1) := by decide +kernel
theorem dX11_campaign_65 : decode cX11_campaign 65 = .ok (.getfield 43, 3) := by decide +kernel
theorem dX11_campaign_68 : decode cX11_campaign 68 = .ok (.getfield 224, 3) := by decide +kernel
theorem dX11_campaign_71 : decode cX11_campaign 71 = .ok (.if_icmp .lt 6, 3) := by decide +kernel
theorem dX11_campaign_74 : decode cX11_campaign 74 = .ok (.bipush (-3), 2) := by decide +kernel
theorem dX11_campaign_76 : decode cX11_campaign 76 = .ok (.ireturn, 1) := by decide +kernel
theorem dX11_campaign_77 : decode cX11_campaign 77 = .ok (.aload_n 0, 1) := by decide +kernel
theorem dX11_campaign_78 : decode cX11_campaign 78 = .ok (.getfield 43, 3) := by decide +kernel
theorem dX11_campaign_81 : decode cX11_campaign 81 = .ok (.aload_n 0, 1) := by decide +kernel
theorem dX11_campaign_82 : decode cX11_campaign 82 = .ok (.getfield 10, 3) := by decide +kernel
theorem dX11_campaign_85 : decode cX11_campaign 85 = .ok (.aload_n 0, 1) := by decide +kernel
theorem dX11_campaign_86 : decode cX11_campaign 86 = .ok (.getfield 71, 3) := by decide +kernel
theorem dX11_campaign_89 : decode cX11_campaign 89 = .ok (.iload_n 1, 1) := by decide +kernel
theorem dX11_campaign_90 : decode cX11_campaign 90 = .ok (.iload_n 2, 1) := by decide +kernel
theorem dX11_campaign_91 : decode cX11_campaign 91 = .ok (.invokevirtual 227, 3) := by decide +kernel
theorem dX11_campaign_94 : decode cX11_campaign 94 = .ok (.istore 5, 2) := by decide +kernel
theorem dX11_campaign_96 : decode cX11_campaign 96 = .ok (.iload 5, 2) := by decide +kernel
theorem dX11_campaign_98 : decode cX11_campaign 98 = .ok (.iconst (-1), 1) := by decide +kernel
theorem dX11_campaign_99 : decode cX11_campaign 99 = .ok (.if_icmp .ne 6, 3) := by decide +kernel
theorem dX11_campaign_102 : decode cX11_campaign 102 = .ok (.bipush (-2), 2) := by decide +kernel
theorem dX11_campaign_104 : decode cX11_campaign 104 = .ok (.ireturn, 1) := by decide +kernel
theorem dX11_campaign_105 : decode cX11_campaign 105 = .ok (.iload 4, 2) := by decide +kernel
theorem dX11_campaign_107 : decode cX11_campaign 107 = .ok (.ifCond .eq 13, 3) := by decide +kernel
theorem dX11_campaign_110 : decode cX11_campaign 110 = .ok (.aload_n 0, 1) := by decide +kernel
theorem dX11_campaign_111 : decode cX11_campaign 111 = .ok (.getfield 43, 3) := by decide +kernel
theorem dX11_campaign_114 : decode cX11_campaign 114 = .ok (.getfield 231, 3) := by decide +kernel
theorem dX11_campaign_117 : decode cX11_campaign 117 = .ok (.iload_n 3, 1) := by decide +kernel
theorem dX11_campaign_118 : decode cX11_campaign 118 = .ok (.iaload, 1) := by decide +kernel
theorem dX11_campaign_119 : decode cX11_campaign 119 = .ok (.ireturn, 1) := by decide +kernel
theorem dX11_campaign_120 : decode cX11_campaign 120 = .ok (.iload_n 3, 1) := by decide +kernel
theorem dX11_campaign_121 : decode cX11_campaign 121 = .ok (.iconst 4, 1) := by decide +kernel
theorem dX11_campaign_122 : decode cX11_campaign 122 = .ok (.if_icmp .ne 14, 3) := by decide +kernel
theorem dX11_campaign_125 : decode cX11_campaign 125 = .ok (.aload_n 0, 1) := by decide +kernel
theorem dX11_campaign_126 : decode cX11_campaign 126 = .ok (.getfield 43, 3) := by decide +kernel
theorem dX11_campaign_129 : decode cX11_campaign 129 = .ok (.aload_n 0, 1) := by decide +kernel
theorem dX11_campaign_130 : decode cX11_campaign 130 = .ok (.getfield 10, 3) := by decide +kernel
theorem dX11_campaign_133 : decode cX11_campaign 133 = .ok (.invokevirtual 234, 3) := by decide +kernel
theorem dX11_campaign_136 : decode cX11_campaign 136 = .ok (.iload 5, 2) := by decide +kernel
theorem dX11_campaign_138 : decode cX11_campaign 138 = .ok (.ireturn, 1) := by decide +kernel
theorem dX11_power_0 : decode cX11_power 0 = .ok (.aload_n 0, 1) := by decide +kernel
theorem dX11_power_1 : decode cX11_power 1 = .ok (.iload_n 1, 1) := by decide +kernel
theorem dX11_power_2 : decode cX11_power 2 = .ok (.invokevirtual 124, 3) := by decide +kernel
theorem dX11_power_5 : decode cX11_power 5 = .ok (.ifCond .eq 16, 3) := by decide +kernel
theorem dX11_power_8 : decode cX11_power 8 = .ok (.aload_n 0, 1) := by decide +kernel
theorem dX11_power_9 : decode cX11_power 9 = .ok (.getfield 10, 3) := by decide +kernel
theorem dX11_power_12 : decode cX11_power 12 = .ok (.iload_n 1, 1) := by decide +kernel
theorem dX11_power_13 : decode cX11_power 13 = .ok (.iconst 0, 1) := by decide +kernel
theorem dX11_power_14 : decode cX11_power 14 = .ok (.invokestatic 237, 3) := by decide +kernel
theorem dX11_power_17 : decode cX11_power 17 = .ok (.l2i, 1) := by decide +kernel
theorem dX11_power_18 : decode cX11_power 18 = .ok (.goto 4, 3) := by decide +kernel
theorem dX11_power_21 : decode cX11_power 21 = .ok (.iconst (-1), 1) := by decide +kernel
theorem dX11_power_22 : decode cX11_power 22 = .ok (.ireturn, 1) := by decide +kernel
theorem dX11_share_0 : decode cX11_share 0 = .ok (.aload_n 0, 1) := by decide +kernel
theorem dX11_share_1 : decode cX11_share 1 = .ok (.iload_n 1, 1) := by decide +kernel
theorem dX11_share_2 : decode cX11_share 2 = .ok (.invokevirtual 124, 3) := by decide +kernel
theorem dX11_share_5 : decode cX11_share 5 = .ok (.ifCond .eq 12, 3) := by decide +kernel
theorem dX11_share_8 : decode cX11_share 8 = .ok (.iload_n 2, 1) := by decide +kernel
theorem dX11_share_9 : decode cX11_share 9 = .ok (.iconst 0, 1) := by decide +kernel
theorem dX11_share_10 : decode cX11_share 10 = .ok (.iconst 1, 1) := by decide +kernel
theorem dX11_share_11 : decode cX11_share 11 = .ok (.invokestatic 90, 3) := by decide +kernel
theorem dX11_share_14 : decode cX11_share 14 = .ok (.ifCond .ne 7, 3) := by decide +kernel
theorem dX11_share_17 : decode cX11_share 17 = .ok (.ldc2_w 243, 3) := by decide +kernel
theorem dX11_share_20 : decode cX11_share 20 = .ok (.lreturn, 1) := by decide +kernel
theorem dX11_share_21 : decode cX11_share 21 = .ok (.aload_n 0, 1) := by decide +kernel
theorem dX11_share_22 : decode cX11_share 22 = .ok (.getfield 10, 3) := by decide +kernel
theorem dX11_share_25 : decode cX11_share 25 = .ok (.iload_n 1, 1) := by decide +kernel
theorem dX11_share_26 : decode cX11_share 26 = .ok (.iconst 1, 1) := by decide +kernel
theorem dX11_share_27 : decode cX11_share 27 = .ok (.invokestatic 237, 3) := by decide +kernel
theorem dX11_share_30 : decode cX11_share 30 = .ok (.lstore_n 3, 1) := by decide +kernel
theorem dX11_share_31 : decode cX11_share 31 = .ok (.aload_n 0, 1) := by decide +kernel
theorem dX11_share_32 : decode cX11_share 32 = .ok (.getfield 10, 3) := by decide +kernel
theorem dX11_share_35 : decode cX11_share 35 = .ok (.getfield 111, 3) := by decide +kernel
theorem dX11_share_38 : decode cX11_share 38 = .ok (.invokestatic 245, 3) := by decide +kernel
theorem dX11_share_41 : decode cX11_share 41 = .ok (.lstore 5, 2) := by decide +kernel
theorem dX11_share_43 : decode cX11_share 43 = .ok (.lload_n 3, 1) := by decide +kernel
theorem dX11_share_44 : decode cX11_share 44 = .ok (.lload 5, 2) := by decide +kernel
theorem dX11_share_46 : decode cX11_share 46 = .ok (.iload_n 2, 1) := by decide +kernel
theorem dX11_share_47 : decode cX11_share 47 = .ok (.invokestatic 249, 3) := by decide +kernel
theorem dX11_share_50 : decode cX11_share 50 = .ok (.lreturn, 1) := by decide +kernel
theorem dX11_seat_0 : decode cX11_seat 0 = .ok (.iload_n 1, 1) := by decide +kernel
theorem dX11_seat_1 : decode cX11_seat 1 = .ok (.iconst 0, 1) := by decide +kernel
theorem dX11_seat_2 : decode cX11_seat 2 = .ok (.iconst 3, 1) := by decide +kernel
theorem dX11_seat_3 : decode cX11_seat 3 = .ok (.invokestatic 90, 3) := by decide +kernel
theorem dX11_seat_6 : decode cX11_seat 6 = .ok (.ifCond .ne 5, 3) := by decide +kernel
theorem dX11_seat_9 : decode cX11_seat 9 = .ok (.iconst (-1), 1) := by decide +kernel
theorem dX11_seat_10 : decode cX11_seat 10 = .ok (.ireturn, 1) := by decide +kernel
theorem dX11_seat_11 : decode cX11_seat 11 = .ok (.aload_n 0, 1) := by decide +kernel
theorem dX11_seat_12 : decode cX11_seat 12 = .ok (.getfield 57, 3) := by decide +kernel
theorem dX11_seat_15 : decode cX11_seat 15 = .ok (.aload_n 0, 1) := by decide +kernel
theorem dX11_seat_16 : decode cX11_seat 16 = .ok (.getfield 10, 3) := by decide +kernel
theorem dX11_seat_19 : decode cX11_seat 19 = .ok (.iconst 5, 1) := by decide +kernel
theorem dX11_seat_20 : decode cX11_seat 20 = .ok (.iconst 5, 1) := by decide +kernel
theorem dX11_seat_21 : decode cX11_seat 21 = .ok (.invokevirtual 253, 3) := by decide +kernel
theorem dX11_seat_24 : decode cX11_seat 24 = .ok (.aload_n 0, 1) := by decide +kernel
theorem dX11_seat_25 : decode cX11_seat 25 = .ok (.getfield 57, 3) := by decide +kernel
theorem dX11_seat_28 : decode cX11_seat 28 = .ok (.iload_n 1, 1) := by decide +kernel
theorem dX11_seat_29 : decode cX11_seat 29 = .ok (.invokevirtual 257, 3) := by decide +kernel
theorem dX11_seat_32 : decode cX11_seat 32 = .ok (.ireturn, 1) := by decide +kernel
theorem dX11_cut_0 : decode cX11_cut 0 = .ok (.iload_n 1, 1) := by decide +kernel
theorem dX11_cut_1 : decode cX11_cut 1 = .ok (.invokestatic 86, 3) := by decide +kernel
theorem dX11_cut_4 : decode cX11_cut 4 = .ok (.ifCond .eq 12, 3) := by decide +kernel
theorem dX11_cut_7 : decode cX11_cut 7 = .ok (.iload_n 2, 1) := by decide +kernel
theorem dX11_cut_8 : decode cX11_cut 8 = .ok (.iconst 0, 1) := by decide +kernel
theorem dX11_cut_9 : decode cX11_cut 9 = .ok (.iconst 2, 1) := by decide +kernel
theorem dX11_cut_10 : decode cX11_cut 10 = .ok (.invokestatic 90, 3) := by decide +kernel
theorem dX11_cut_13 : decode cX11_cut 13 = .ok (.ifCond .ne 5, 3) := by decide +kernel
theorem dX11_cut_16 : decode cX11_cut 16 = .ok (.iconst (-1), 1) := by decide +kernel
theorem dX11_cut_17 : decode cX11_cut 17 = .ok (.ireturn, 1) := by decide +kernel
theorem dX11_cut_18 : decode cX11_cut 18 = .ok (.iconst (-1), 1) := by decide +kernel
theorem dX11_cut_19 : decode cX11_cut 19 = .ok (.istore_n 3, 1) := by decide +kernel
theorem dX11_cut_20 : decode cX11_cut 20 = .ok (.iconst 0, 1) := by decide +kernel
theorem dX11_cut_21 : decode cX11_cut 21 = .ok (.istore 4, 2) := by decide +kernel
theorem dX11_cut_23 : decode cX11_cut 23 = .ok (.iconst 0, 1) := by decide +kernel
theorem dX11_cut_24 : decode cX11_cut 24 = .ok (.istore 5, 2) := by decide +kernel
theorem dX11_cut_26 : decode cX11_cut 26 = .ok (.iconst 1, 1) := by decide +kernel
theorem dX11_cut_27 : decode cX11_cut 27 = .ok (.istore 6, 2) := by decide +kernel
theorem dX11_cut_29 : decode cX11_cut 29 = .ok (.iload 6, 2) := by decide +kernel
theorem dX11_cut_31 : decode cX11_cut 31 = .ok (.bipush 10, 2) := by decide +kernel
theorem dX11_cut_33 : decode cX11_cut 33 = .ok (.if_icmp .ge 67, 3) := by decide +kernel
theorem dX11_cut_36 : decode cX11_cut 36 = .ok (.iconst 1, 1) := by decide +kernel
theorem dX11_cut_37 : decode cX11_cut 37 = .ok (.istore 7, 2) := by decide +kernel
theorem dX11_cut_39 : decode cX11_cut 39 = .ok (.iload 7, 2) := by decide +kernel
theorem dX11_cut_41 : decode cX11_cut 41 = .ok (.bipush 10, 2) := by decide +kernel
theorem dX11_cut_43 : decode cX11_cut 43 = .ok (.if_icmp .ge 51, 3) := by decide +kernel
theorem dX11_cut_46 : decode cX11_cut 46 = .ok (.aload_n 0, 1) := by decide +kernel
theorem dX11_cut_47 : decode cX11_cut 47 = .ok (.getfield 57, 3) := by decide +kernel
theorem dX11_cut_50 : decode cX11_cut 50 = .ok (.aload_n 0, 1) := by decide +kernel
theorem dX11_cut_51 : decode cX11_cut 51 = .ok (.getfield 10, 3) := by decide +kernel
theorem dX11_cut_54 : decode cX11_cut 54 = .ok (.iload 6, 2) := by decide +kernel
theorem dX11_cut_56 : decode cX11_cut 56 = .ok (.iload 7, 2) := by decide +kernel
theorem dX11_cut_58 : decode cX11_cut 58 = .ok (.invokevirtual 253, 3) := by decide +kernel
theorem dX11_cut_61 : decode cX11_cut 61 = .ok (.aload_n 0, 1) := by decide +kernel
theorem dX11_cut_62 : decode cX11_cut 62 = .ok (.getfield 57, 3) := by decide +kernel
theorem dX11_cut_65 : decode cX11_cut 65 = .ok (.iload_n 1, 1) := by decide +kernel
theorem dX11_cut_66 : decode cX11_cut 66 = .ok (.invokevirtual 261, 3) := by decide +kernel
theorem dX11_cut_69 : decode cX11_cut 69 = .ok (.istore 8, 2) := by decide +kernel
theorem dX11_cut_71 : decode cX11_cut 71 = .ok (.iload 8, 2) := by decide +kernel
theorem dX11_cut_73 : decode cX11_cut 73 = .ok (.iload_n 3, 1) := by decide +kernel
theorem dX11_cut_74 : decode cX11_cut 74 = .ok (.if_icmp .le 14, 3) := by decide +kernel
theorem dX11_cut_77 : decode cX11_cut 77 = .ok (.iload 8, 2) := by decide +kernel
theorem dX11_cut_79 : decode cX11_cut 79 = .ok (.istore_n 3, 1) := by decide +kernel
theorem dX11_cut_80 : decode cX11_cut 80 = .ok (.iload 6, 2) := by decide +kernel
theorem dX11_cut_82 : decode cX11_cut 82 = .ok (.istore 4, 2) := by decide +kernel
theorem dX11_cut_84 : decode cX11_cut 84 = .ok (.iload 7, 2) := by decide +kernel
theorem dX11_cut_86 : decode cX11_cut 86 = .ok (.istore 5, 2) := by decide +kernel
theorem dX11_cut_88 : decode cX11_cut 88 = .ok (.iinc 7 1, 3) := by decide +kernel
theorem dX11_cut_91 : decode cX11_cut 91 = .ok (.goto (-52), 3) := by decide +kernel
theorem dX11_cut_94 : decode cX11_cut 94 = .ok (.iinc 6 1, 3) := by decide +kernel
theorem dX11_cut_97 : decode cX11_cut 97 = .ok (.goto (-68), 3) := by decide +kernel
theorem dX11_cut_100 : decode cX11_cut 100 = .ok (.iload_n 2, 1) := by decide +kernel
theorem dX11_cut_101 : decode cX11_cut 101 = .ok (.ifCond .ne 5, 3) := by decide +kernel
theorem dX11_cut_104 : decode cX11_cut 104 = .ok (.iload_n 3, 1) := by decide +kernel
theorem dX11_cut_105 : decode cX11_cut 105 = .ok (.ireturn, 1) := by decide +kernel
theorem dX11_cut_106 : decode cX11_cut 106 = .ok (.iload_n 2, 1) := by decide +kernel
theorem dX11_cut_107 : decode cX11_cut 107 = .ok (.iconst 1, 1) := by decide +kernel
theorem dX11_cut_108 : decode cX11_cut 108 = .ok (.if_icmp .ne 8, 3) := by decide +kernel
theorem dX11_cut_111 : decode cX11_cut 111 = .ok (.iload 4, 2) := by decide +kernel
theorem dX11_cut_113 : decode cX11_cut 113 = .ok (.goto 5, 3) := by decide +kernel
theorem dX11_cut_116 : decode cX11_cut 116 = .ok (.iload 5, 2) := by decide +kernel
theorem dX11_cut_118 : decode cX11_cut 118 = .ok (.ireturn, 1) := by decide +kernel
theorem dX11_foreseen_0 : decode cX11_foreseen 0 = .ok (.aload_n 0, 1) := by decide +kernel
theorem dX11_foreseen_1 : decode cX11_foreseen 1 = .ok (.iload_n 1, 1) := by decide +kernel
theorem dX11_foreseen_2 : decode cX11_foreseen 2 = .ok (.invokevirtual 124, 3) := by decide +kernel
theorem dX11_foreseen_5 : decode cX11_foreseen 5 = .ok (.ifCond .ne 5, 3) := by decide +kernel
theorem dX11_foreseen_8 : decode cX11_foreseen 8 = .ok (.iconst (-1), 1) := by decide +kernel
theorem dX11_foreseen_9 : decode cX11_foreseen 9 = .ok (.ireturn, 1) := by decide +kernel
theorem dX11_foreseen_10 : decode cX11_foreseen 10 = .ok (.bipush (-2), 2) := by decide +kernel
theorem dX11_foreseen_12 : decode cX11_foreseen 12 = .ok (.istore_n 2, 1) := by decide +kernel
theorem dX11_foreseen_13 : decode cX11_foreseen 13 = .ok (.iconst 0, 1) := by decide +kernel
theorem dX11_foreseen_14 : decode cX11_foreseen 14 = .ok (.istore_n 3, 1) := by decide +kernel
theorem dX11_foreseen_15 : decode cX11_foreseen 15 = .ok (.iconst 0, 1) := by decide +kernel
theorem dX11_foreseen_16 : decode cX11_foreseen 16 = .ok (.istore 4, 2) := by decide +kernel
theorem dX11_foreseen_18 : decode cX11_foreseen 18 = .ok (.iload 4, 2) := by decide +kernel
theorem dX11_foreseen_20 : decode cX11_foreseen 20 = .ok (.aload_n 0, 1) := by decide +kernel
theorem dX11_foreseen_21 : decode cX11_foreseen 21 = .ok (.getfield 10, 3) := by decide +kernel
theorem dX11_foreseen_24 : decode cX11_foreseen 24 = .ok (.getfield 111, 3) := by decide +kernel
theorem dX11_foreseen_27 : decode cX11_foreseen 27 = .ok (.if_icmp .ge 82, 3) := by decide +kernel
theorem dX11_foreseen_30 : decode cX11_foreseen 30 = .ok (.aload_n 0, 1) := by decide +kernel
theorem dX11_foreseen_31 : decode cX11_foreseen 31 = .ok (.getfield 10, 3) := by decide +kernel
theorem dX11_foreseen_34 : decode cX11_foreseen 34 = .ok (.getfield 114, 3) := by decide +kernel
theorem dX11_foreseen_37 : decode cX11_foreseen 37 = .ok (.iload 4, 2) := by decide +kernel
theorem dX11_foreseen_39 : decode cX11_foreseen 39 = .ok (.aaload, 1) := by decide +kernel
theorem dX11_foreseen_40 : decode cX11_foreseen 40 = .ok (.getfield 214, 3) := by decide +kernel
theorem dX11_foreseen_43 : decode cX11_foreseen 43 = .ok (.istore 5, 2) := by decide +kernel
theorem dX11_foreseen_45 : decode cX11_foreseen 45 = .ok (.iload 4, 2) := by decide +kernel
theorem dX11_foreseen_47 : decode cX11_foreseen 47 = .ok (.iload_n 1, 1) := by decide +kernel
theorem dX11_foreseen_48 : decode cX11_foreseen 48 = .ok (.if_icmp .eq 55, 3) := by decide +kernel
theorem dX11_foreseen_51 : decode cX11_foreseen 51 = .ok (.iload 5, 2) := by decide +kernel
theorem dX11_foreseen_53 : decode cX11_foreseen 53 = .ok (.bipush (-2), 2) := by decide +kernel
theorem dX11_foreseen_55 : decode cX11_foreseen 55 = .ok (.if_icmp .ne 6, 3) := by decide +kernel
theorem dX11_foreseen_58 : decode cX11_foreseen 58 = .ok (.goto 45, 3) := by decide +kernel
theorem dX11_foreseen_61 : decode cX11_foreseen 61 = .ok (.aload_n 0, 1) := by decide +kernel
theorem dX11_foreseen_62 : decode cX11_foreseen 62 = .ok (.getfield 10, 3) := by decide +kernel
theorem dX11_foreseen_65 : decode cX11_foreseen 65 = .ok (.getfield 114, 3) := by decide +kernel
theorem dX11_foreseen_68 : decode cX11_foreseen 68 = .ok (.iload_n 1, 1) := by decide +kernel
theorem dX11_foreseen_69 : decode cX11_foreseen 69 = .ok (.aaload, 1) := by decide +kernel
theorem dX11_foreseen_70 : decode cX11_foreseen 70 = .ok (.aload_n 0, 1) := by decide +kernel
theorem dX11_foreseen_71 : decode cX11_foreseen 71 = .ok (.getfield 10, 3) := by decide +kernel
theorem dX11_foreseen_74 : decode cX11_foreseen 74 = .ok (.getfield 114, 3) := by decide +kernel
theorem dX11_foreseen_77 : decode cX11_foreseen 77 = .ok (.iload 4, 2) := by decide +kernel
theorem dX11_foreseen_79 : decode cX11_foreseen 79 = .ok (.aaload, 1) := by decide +kernel
theorem dX11_foreseen_80 : decode cX11_foreseen 80 = .ok (.invokevirtual 264, 3) := by decide +kernel
theorem dX11_foreseen_83 : decode cX11_foreseen 83 = .ok (.istore 6, 2) := by decide +kernel
theorem dX11_foreseen_85 : decode cX11_foreseen 85 = .ok (.iload_n 2, 1) := by decide +kernel
theorem dX11_foreseen_86 : decode cX11_foreseen 86 = .ok (.bipush (-2), 2) := by decide +kernel
theorem dX11_foreseen_88 : decode cX11_foreseen 88 = .ok (.if_icmp .eq 9, 3) := by decide +kernel
theorem dX11_foreseen_91 : decode cX11_foreseen 91 = .ok (.iload 6, 2) := by decide +kernel
theorem dX11_foreseen_93 : decode cX11_foreseen 93 = .ok (.iload_n 3, 1) := by decide +kernel
theorem dX11_foreseen_94 : decode cX11_foreseen 94 = .ok (.if_icmp .ge 9, 3) := by decide +kernel
theorem dX11_foreseen_97 : decode cX11_foreseen 97 = .ok (.iload 5, 2) := by decide +kernel
theorem dX11_foreseen_99 : decode cX11_foreseen 99 = .ok (.istore_n 2, 1) := by decide +kernel
theorem dX11_foreseen_100 : decode cX11_foreseen 100 = .ok (.iload 6, 2) := by decide +kernel
theorem dX11_foreseen_102 : decode cX11_foreseen 102 = .ok (.istore_n 3, 1) := by decide +kernel
theorem dX11_foreseen_103 : decode cX11_foreseen 103 = .ok (.iinc 4 1, 3) := by decide +kernel
theorem dX11_foreseen_106 : decode cX11_foreseen 106 = .ok (.goto (-88), 3) := by decide +kernel
theorem dX11_foreseen_109 : decode cX11_foreseen 109 = .ok (.iload_n 2, 1) := by decide +kernel
theorem dX11_foreseen_110 : decode cX11_foreseen 110 = .ok (.ireturn, 1) := by decide +kernel
theorem dX11_burns_0 : decode cX11_burns 0 = .ok (.iload_n 2, 1) := by decide +kernel
theorem dX11_burns_1 : decode cX11_burns 1 = .ok (.iconst 1, 1) := by decide +kernel
theorem dX11_burns_2 : decode cX11_burns 2 = .ok (.bipush 12, 2) := by decide +kernel
theorem dX11_burns_4 : decode cX11_burns 4 = .ok (.invokestatic 90, 3) := by decide +kernel
theorem dX11_burns_7 : decode cX11_burns 7 = .ok (.ifCond .eq 27, 3) := by decide +kernel
theorem dX11_burns_10 : decode cX11_burns 10 = .ok (.iload_n 3, 1) := by decide +kernel
theorem dX11_burns_11 : decode cX11_burns 11 = .ok (.iconst 1, 1) := by decide +kernel
theorem dX11_burns_12 : decode cX11_burns 12 = .ok (.bipush 30, 2) := by decide +kernel
theorem dX11_burns_14 : decode cX11_burns 14 = .ok (.invokestatic 90, 3) := by decide +kernel
theorem dX11_burns_17 : decode cX11_burns 17 = .ok (.ifCond .eq 17, 3) := by decide +kernel
theorem dX11_burns_20 : decode cX11_burns 20 = .ok (.iload 4, 2) := by decide +kernel
theorem dX11_burns_22 : decode cX11_burns 22 = .ok (.iconst 0, 1) := by decide +kernel
theorem dX11_burns_23 : decode cX11_burns 23 = .ok (.iconst 1, 1) := by decide +kernel
theorem dX11_burns_24 : decode cX11_burns 24 = .ok (.invokestatic 90, 3) := by decide +kernel
theorem dX11_burns_27 : decode cX11_burns 27 = .ok (.ifCond .eq 7, 3) := by decide +kernel
theorem dX11_burns_30 : decode cX11_burns 30 = .ok (.iconst 1, 1) := by decide +kernel
theorem dX11_burns_31 : decode cX11_burns 31 = .ok (.goto 4, 3) := by decide +kernel
theorem dX11_burns_34 : decode cX11_burns 34 = .ok (.iconst 0, 1) := by decide +kernel
theorem dX11_burns_35 : decode cX11_burns 35 = .ok (.istore 5, 2) := by decide +kernel
theorem dX11_burns_37 : decode cX11_burns 37 = .ok (.iload 5, 2) := by decide +kernel
theorem dX11_burns_39 : decode cX11_burns 39 = .ok (.ifCond .eq 11, 3) := by decide +kernel
theorem dX11_burns_42 : decode cX11_burns 42 = .ok (.aload_n 0, 1) := by decide +kernel
theorem dX11_burns_43 : decode cX11_burns 43 = .ok (.iload_n 1, 1) := by decide +kernel
theorem dX11_burns_44 : decode cX11_burns 44 = .ok (.invokevirtual 135, 3) := by decide +kernel
theorem dX11_burns_47 : decode cX11_burns 47 = .ok (.ifCond .ne 7, 3) := by decide +kernel
theorem dX11_burns_50 : decode cX11_burns 50 = .ok (.ldc2_w 243, 3) := by decide +kernel
theorem dX11_burns_53 : decode cX11_burns 53 = .ok (.lreturn, 1) := by decide +kernel
theorem dX11_burns_54 : decode cX11_burns 54 = .ok (.aload_n 0, 1) := by decide +kernel
theorem dX11_burns_55 : decode cX11_burns 55 = .ok (.getfield 64, 3) := by decide +kernel
theorem dX11_burns_58 : decode cX11_burns 58 = .ok (.iload_n 2, 1) := by decide +kernel
theorem dX11_burns_59 : decode cX11_burns 59 = .ok (.iload_n 3, 1) := by decide +kernel
theorem dX11_burns_60 : decode cX11_burns 60 = .ok (.invokevirtual 268, 3) := by decide +kernel
theorem dX11_burns_63 : decode cX11_burns 63 = .ok (.aload_n 0, 1) := by decide +kernel
theorem dX11_burns_64 : decode cX11_burns 64 = .ok (.getfield 64, 3) := by decide +kernel
theorem dX11_burns_67 : decode cX11_burns 67 = .ok (.sipush 500, 3) := by decide +kernel
theorem dX11_burns_70 : decode cX11_burns 70 = .ok (.aload_n 0, 1) := by decide +kernel
theorem dX11_burns_71 : decode cX11_burns 71 = .ok (.getfield 10, 3) := by decide +kernel
theorem dX11_burns_74 : decode cX11_burns 74 = .ok (.getfield 101, 3) := by decide +kernel
theorem dX11_burns_77 : decode cX11_burns 77 = .ok (.iload_n 1, 1) := by decide +kernel
theorem dX11_burns_78 : decode cX11_burns 78 = .ok (.aaload, 1) := by decide +kernel
theorem dX11_burns_79 : decode cX11_burns 79 = .ok (.getfield 200, 3) := by decide +kernel
theorem dX11_burns_82 : decode cX11_burns 82 = .ok (.isub, 1) := by decide +kernel
theorem dX11_burns_83 : decode cX11_burns 83 = .ok (.invokevirtual 271, 3) := by decide +kernel
theorem dX11_burns_86 : decode cX11_burns 86 = .ok (.lstore 6, 2) := by decide +kernel
theorem dX11_burns_88 : decode cX11_burns 88 = .ok (.lload 6, 2) := by decide +kernel
theorem dX11_burns_90 : decode cX11_burns 90 = .ok (.aload_n 0, 1) := by decide +kernel
theorem dX11_burns_91 : decode cX11_burns 91 = .ok (.getfield 64, 3) := by decide +kernel
theorem dX11_burns_94 : decode cX11_burns 94 = .ok (.getfield 274, 3) := by decide +kernel
theorem dX11_burns_97 : decode cX11_burns 97 = .ok (.iload 4, 2) := by decide +kernel
theorem dX11_burns_99 : decode cX11_burns 99 = .ok (.invokestatic 249, 3) := by decide +kernel
theorem dX11_burns_102 : decode cX11_burns 102 = .ok (.lreturn, 1) := by decide +kernel
theorem dX11_salted_0 : decode cX11_salted 0 = .ok (.iload_n 1, 1) := by decide +kernel
theorem dX11_salted_1 : decode cX11_salted 1 = .ok (.iconst 1, 1) := by decide +kernel
theorem dX11_salted_2 : decode cX11_salted 2 = .ok (.bipush 30, 2) := by decide +kernel
theorem dX11_salted_4 : decode cX11_salted 4 = .ok (.invokestatic 90, 3) := by decide +kernel
theorem dX11_salted_7 : decode cX11_salted 7 = .ok (.ifCond .eq 25, 3) := by decide +kernel
theorem dX11_salted_10 : decode cX11_salted 10 = .ok (.iload_n 2, 1) := by decide +kernel
theorem dX11_salted_11 : decode cX11_salted 11 = .ok (.iconst 0, 1) := by decide +kernel
theorem dX11_salted_12 : decode cX11_salted 12 = .ok (.iconst 2, 1) := by decide +kernel
theorem dX11_salted_13 : decode cX11_salted 13 = .ok (.invokestatic 90, 3) := by decide +kernel
theorem dX11_salted_16 : decode cX11_salted 16 = .ok (.ifCond .eq 16, 3) := by decide +kernel
theorem dX11_salted_19 : decode cX11_salted 19 = .ok (.iconst 3, 1) := by decide +kernel
theorem dX11_salted_20 : decode cX11_salted 20 = .ok (.iload_n 1, 1) := by decide +kernel
theorem dX11_salted_21 : decode cX11_salted 21 = .ok (.imul, 1) := by decide +kernel
theorem dX11_salted_22 : decode cX11_salted 22 = .ok (.aload_n 0, 1) := by decide +kernel
theorem dX11_salted_23 : decode cX11_salted 23 = .ok (.getfield 25, 3) := by decide +kernel
theorem dX11_salted_26 : decode cX11_salted 26 = .ok (.getfield 138, 3) := by decide +kernel
theorem dX11_salted_29 : decode cX11_salted 29 = .ok (.if_icmp .le 6, 3) := by decide +kernel
theorem dX11_salted_32 : decode cX11_salted 32 = .ok (.bipush (-3), 2) := by decide +kernel
theorem dX11_salted_34 : decode cX11_salted 34 = .ok (.ireturn, 1) := by decide +kernel
theorem dX11_salted_35 : decode cX11_salted 35 = .ok (.aload_n 0, 1) := by decide +kernel
theorem dX11_salted_36 : decode cX11_salted 36 = .ok (.getfield 50, 3) := by decide +kernel
theorem dX11_salted_39 : decode cX11_salted 39 = .ok (.aload_n 0, 1) := by decide +kernel
theorem dX11_salted_40 : decode cX11_salted 40 = .ok (.getfield 25, 3) := by decide +kernel
theorem dX11_salted_43 : decode cX11_salted 43 = .ok (.iload_n 1, 1) := by decide +kernel
theorem dX11_salted_44 : decode cX11_salted 44 = .ok (.aload_n 0, 1) := by decide +kernel
theorem dX11_salted_45 : decode cX11_salted 45 = .ok (.getfield 10, 3) := by decide +kernel
theorem dX11_salted_48 : decode cX11_salted 48 = .ok (.invokevirtual 278, 3) := by decide +kernel
theorem dX11_salted_51 : decode cX11_salted 51 = .ok (.istore_n 3, 1) := by decide +kernel
theorem dX11_salted_52 : decode cX11_salted 52 = .ok (.aload_n 0, 1) := by decide +kernel
theorem dX11_salted_53 : decode cX11_salted 53 = .ok (.getfield 25, 3) := by decide +kernel
theorem dX11_salted_56 : decode cX11_salted 56 = .ok (.invokevirtual 149, 3) := by decide +kernel
theorem dX11_salted_59 : decode cX11_salted 59 = .ok (.iload_n 3, 1) := by decide +kernel
theorem dX11_salted_60 : decode cX11_salted 60 = .ok (.ifCond .ne 6, 3) := by decide +kernel
theorem dX11_salted_63 : decode cX11_salted 63 = .ok (.bipush (-2), 2) := by decide +kernel
theorem dX11_salted_65 : decode cX11_salted 65 = .ok (.ireturn, 1) := by decide +kernel
theorem dX11_salted_66 : decode cX11_salted 66 = .ok (.aload_n 0, 1) := by decide +kernel
theorem dX11_salted_67 : decode cX11_salted 67 = .ok (.getfield 50, 3) := by decide +kernel
theorem dX11_salted_70 : decode cX11_salted 70 = .ok (.aload_n 0, 1) := by decide +kernel
theorem dX11_salted_71 : decode cX11_salted 71 = .ok (.getfield 10, 3) := by decide +kernel
theorem dX11_salted_74 : decode cX11_salted 74 = .ok (.aload_n 0, 1) := by decide +kernel
theorem dX11_salted_75 : decode cX11_salted 75 = .ok (.getfield 71, 3) := by decide +kernel
theorem dX11_salted_78 : decode cX11_salted 78 = .ok (.invokevirtual 282, 3) := by decide +kernel
theorem dX11_salted_81 : decode cX11_salted 81 = .ok (.iload_n 2, 1) := by decide +kernel
theorem dX11_salted_82 : decode cX11_salted 82 = .ok (.ifCond .ne 11, 3) := by decide +kernel
theorem dX11_salted_85 : decode cX11_salted 85 = .ok (.aload_n 0, 1) := by decide +kernel
theorem dX11_salted_86 : decode cX11_salted 86 = .ok (.getfield 50, 3) := by decide +kernel
theorem dX11_salted_89 : decode cX11_salted 89 = .ok (.getfield 286, 3) := by decide +kernel
theorem dX11_salted_92 : decode cX11_salted 92 = .ok (.ireturn, 1) := by decide +kernel
theorem dX11_salted_93 : decode cX11_salted 93 = .ok (.iload_n 2, 1) := by decide +kernel
theorem dX11_salted_94 : decode cX11_salted 94 = .ok (.iconst 1, 1) := by decide +kernel
theorem dX11_salted_95 : decode cX11_salted 95 = .ok (.if_icmp .ne 13, 3) := by decide +kernel
theorem dX11_salted_98 : decode cX11_salted 98 = .ok (.aload_n 0, 1) := by decide +kernel
theorem dX11_salted_99 : decode cX11_salted 99 = .ok (.getfield 50, 3) := by decide +kernel
theorem dX11_salted_102 : decode cX11_salted 102 = .ok (.getfield 289, 3) := by decide +kernel
theorem dX11_salted_105 : decode cX11_salted 105 = .ok (.goto 10, 3) := by decide +kernel
theorem dX11_salted_108 : decode cX11_salted 108 = .ok (.aload_n 0, 1) := by decide +kernel
theorem dX11_salted_109 : decode cX11_salted 109 = .ok (.getfield 50, 3) := by decide +kernel
theorem dX11_salted_112 : decode cX11_salted 112 = .ok (.getfield 292, 3) := by decide +kernel
theorem dX11_salted_115 : decode cX11_salted 115 = .ok (.ireturn, 1) := by decide +kernel
theorem dX11_storm_0 : decode cX11_storm 0 = .ok (.iload_n 1, 1) := by decide +kernel
theorem dX11_storm_1 : decode cX11_storm 1 = .ok (.iconst 1, 1) := by decide +kernel
theorem dX11_storm_2 : decode cX11_storm 2 = .ok (.bipush 9, 2) := by decide +kernel
theorem dX11_storm_4 : decode cX11_storm 4 = .ok (.invokestatic 90, 3) := by decide +kernel
theorem dX11_storm_7 : decode cX11_storm 7 = .ok (.ifCond .eq 14, 3) := by decide +kernel
theorem dX11_storm_10 : decode cX11_storm 10 = .ok (.aload_n 0, 1) := by decide +kernel
theorem dX11_storm_11 : decode cX11_storm 11 = .ok (.getfield 10, 3) := by decide +kernel
theorem dX11_storm_14 : decode cX11_storm 14 = .ok (.iload_n 1, 1) := by decide +kernel
theorem dX11_storm_15 : decode cX11_storm 15 = .ok (.invokevirtual 295, 3) := by decide +kernel
theorem dX11_storm_18 : decode cX11_storm 18 = .ok (.goto 4, 3) := by decide +kernel
theorem dX11_storm_21 : decode cX11_storm 21 = .ok (.iconst (-1), 1) := by decide +kernel
theorem dX11_storm_22 : decode cX11_storm 22 = .ok (.ireturn, 1) := by decide +kernel
theorem dX11_seed_0 : decode cX11_seed 0 = .ok (.iload_n 1, 1) := by decide +kernel
theorem dX11_seed_1 : decode cX11_seed 1 = .ok (.iconst 0, 1) := by decide +kernel
theorem dX11_seed_2 : decode cX11_seed 2 = .ok (.ldc_w 298, 3) := by decide +kernel
theorem dX11_seed_5 : decode cX11_seed 5 = .ok (.invokestatic 90, 3) := by decide +kernel
theorem dX11_seed_8 : decode cX11_seed 8 = .ok (.ifCond .ne 5, 3) := by decide +kernel
theorem dX11_seed_11 : decode cX11_seed 11 = .ok (.iconst 0, 1) := by decide +kernel
theorem dX11_seed_12 : decode cX11_seed 12 = .ok (.ireturn, 1) := by decide +kernel
theorem dX11_seed_13 : decode cX11_seed 13 = .ok (.aload_n 0, 1) := by decide +kernel
theorem dX11_seed_14 : decode cX11_seed 14 = .ok (.getfield 10, 3) := by decide +kernel
theorem dX11_seed_17 : decode cX11_seed 17 = .ok (.iload_n 1, 1) := by decide +kernel
theorem dX11_seed_18 : decode cX11_seed 18 = .ok (.putfield 299, 3) := by decide +kernel
