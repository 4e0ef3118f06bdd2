theorem dX11_seed_21 : decode cX11_seed 21 = .ok (.iconst 1, 1) := by decide +kernel
theorem dX11_seed_22 : decode cX11_seed 22 = .ok (.ireturn, 1) := by decide +kernel
theorem dX11_draw_0 : decode cX11_draw 0 = .ok (.iload_n 1, 1) := by decide +kernel
theorem dX11_draw_1 : decode cX11_draw 1 = .ok (.iconst 1, 1) := by decide +kernel
theorem dX11_draw_2 : decode cX11_draw 2 = .ok (.bipush 20, 2) := by decide +kernel
theorem dX11_draw_4 : decode cX11_draw 4 = .ok (.invokestatic 90, 3) := by decide +kernel
theorem dX11_draw_7 : decode cX11_draw 7 = .ok (.ifCond .ne 5, 3) := by decide +kernel
theorem dX11_draw_10 : decode cX11_draw 10 = .ok (.iconst (-1), 1) := by decide +kernel
theorem dX11_draw_11 : decode cX11_draw 11 = .ok (.ireturn, 1) := by decide +kernel
theorem dX11_draw_12 : decode cX11_draw 12 = .ok (.iconst 0, 1) := by decide +kernel
theorem dX11_draw_13 : decode cX11_draw 13 = .ok (.istore_n 2, 1) := by decide +kernel
theorem dX11_draw_14 : decode cX11_draw 14 = .ok (.iconst 0, 1) := by decide +kernel
theorem dX11_draw_15 : decode cX11_draw 15 = .ok (.istore_n 3, 1) := by decide +kernel
theorem dX11_draw_16 : decode cX11_draw 16 = .ok (.iload_n 3, 1) := by decide +kernel
theorem dX11_draw_17 : decode cX11_draw 17 = .ok (.iload_n 1, 1) := by decide +kernel
theorem dX11_draw_18 : decode cX11_draw 18 = .ok (.if_icmp .ge 37, 3) := by decide +kernel
theorem dX11_draw_21 : decode cX11_draw 21 = .ok (.aload_n 0, 1) := by decide +kernel
theorem dX11_draw_22 : decode cX11_draw 22 = .ok (.getfield 10, 3) := by decide +kernel
theorem dX11_draw_25 : decode cX11_draw 25 = .ok (.invokevirtual 302, 3) := by decide +kernel
theorem dX11_draw_28 : decode cX11_draw 28 = .ok (.aload_n 0, 1) := by decide +kernel
theorem dX11_draw_29 : decode cX11_draw 29 = .ok (.getfield 10, 3) := by decide +kernel
theorem dX11_draw_32 : decode cX11_draw 32 = .ok (.invokevirtual 156, 3) := by decide +kernel
theorem dX11_draw_35 : decode cX11_draw 35 = .ok (.iload_n 2, 1) := by decide +kernel
theorem dX11_draw_36 : decode cX11_draw 36 = .ok (.aload_n 0, 1) := by decide +kernel
theorem dX11_draw_37 : decode cX11_draw 37 = .ok (.getfield 10, 3) := by decide +kernel
theorem dX11_draw_40 : decode cX11_draw 40 = .ok (.aload_n 0, 1) := by decide +kernel
theorem dX11_draw_41 : decode cX11_draw 41 = .ok (.getfield 71, 3) := by decide +kernel
theorem dX11_draw_44 : decode cX11_draw 44 = .ok (.invokevirtual 162, 3) := by decide +kernel
theorem dX11_draw_47 : decode cX11_draw 47 = .ok (.iadd, 1) := by decide +kernel
theorem dX11_draw_48 : decode cX11_draw 48 = .ok (.istore_n 2, 1) := by decide +kernel
theorem dX11_draw_49 : decode cX11_draw 49 = .ok (.iinc 3 1, 3) := by decide +kernel
theorem dX11_draw_52 : decode cX11_draw 52 = .ok (.goto (-36), 3) := by decide +kernel
theorem dX11_draw_55 : decode cX11_draw 55 = .ok (.iload_n 2, 1) := by decide +kernel
theorem dX11_draw_56 : decode cX11_draw 56 = .ok (.ireturn, 1) := by decide +kernel
theorem dX11_keep_0 : decode cX11_keep 0 = .ok (.aload_n 0, 1) := by decide +kernel
theorem dX11_keep_1 : decode cX11_keep 1 = .ok (.getfield 16, 3) := by decide +kernel
theorem dX11_keep_4 : decode cX11_keep 4 = .ok (.aload_n 0, 1) := by decide +kernel
theorem dX11_keep_5 : decode cX11_keep 5 = .ok (.getfield 10, 3) := by decide +kernel
theorem dX11_keep_8 : decode cX11_keep 8 = .ok (.invokevirtual 305, 3) := by decide +kernel
theorem dX11_keep_11 : decode cX11_keep 11 = .ok (.aload_n 0, 1) := by decide +kernel
theorem dX11_keep_12 : decode cX11_keep 12 = .ok (.iconst 1, 1) := by decide +kernel
theorem dX11_keep_13 : decode cX11_keep 13 = .ok (.putfield 78, 3) := by decide +kernel
theorem dX11_keep_16 : decode cX11_keep 16 = .ok (.aload_n 0, 1) := by decide +kernel
theorem dX11_keep_17 : decode cX11_keep 17 = .ok (.getfield 10, 3) := by decide +kernel
theorem dX11_keep_20 : decode cX11_keep 20 = .ok (.invokevirtual 175, 3) := by decide +kernel
theorem dX11_keep_23 : decode cX11_keep 23 = .ok (.ireturn, 1) := by decide +kernel
theorem dX11_undo_0 : decode cX11_undo 0 = .ok (.aload_n 0, 1) := by decide +kernel
theorem dX11_undo_1 : decode cX11_undo 1 = .ok (.getfield 78, 3) := by decide +kernel
theorem dX11_undo_4 : decode cX11_undo 4 = .ok (.ifCond .eq 14, 3) := by decide +kernel
theorem dX11_undo_7 : decode cX11_undo 7 = .ok (.aload_n 0, 1) := by decide +kernel
theorem dX11_undo_8 : decode cX11_undo 8 = .ok (.getfield 10, 3) := by decide +kernel
theorem dX11_undo_11 : decode cX11_undo 11 = .ok (.aload_n 0, 1) := by decide +kernel
theorem dX11_undo_12 : decode cX11_undo 12 = .ok (.getfield 16, 3) := by decide +kernel
theorem dX11_undo_15 : decode cX11_undo 15 = .ok (.invokevirtual 305, 3) := by decide +kernel
theorem dX11_undo_18 : decode cX11_undo 18 = .ok (.aload_n 0, 1) := by decide +kernel
theorem dX11_undo_19 : decode cX11_undo 19 = .ok (.getfield 78, 3) := by decide +kernel
theorem dX11_undo_22 : decode cX11_undo 22 = .ok (.ireturn, 1) := by decide +kernel
theorem dX11_check_0 : decode cX11_check 0 = .ok (.aload_n 0, 1) := by decide +kernel
theorem dX11_check_1 : decode cX11_check 1 = .ok (.iload_n 1, 1) := by decide +kernel
theorem dX11_check_2 : decode cX11_check 2 = .ok (.invokevirtual 166, 3) := by decide +kernel
theorem dX11_check_5 : decode cX11_check 5 = .ok (.ifCond .eq 26, 3) := by decide +kernel
theorem dX11_check_8 : decode cX11_check 8 = .ok (.iload_n 2, 1) := by decide +kernel
theorem dX11_check_9 : decode cX11_check 9 = .ok (.iconst 0, 1) := by decide +kernel
theorem dX11_check_10 : decode cX11_check 10 = .ok (.bipush 16, 2) := by decide +kernel
theorem dX11_check_12 : decode cX11_check 12 = .ok (.invokestatic 90, 3) := by decide +kernel
theorem dX11_check_15 : decode cX11_check 15 = .ok (.ifCond .eq 16, 3) := by decide +kernel
theorem dX11_check_18 : decode cX11_check 18 = .ok (.iconst 4, 1) := by decide +kernel
theorem dX11_check_19 : decode cX11_check 19 = .ok (.iload_n 2, 1) := by decide +kernel
theorem dX11_check_20 : decode cX11_check 20 = .ok (.imul, 1) := by decide +kernel
theorem dX11_check_21 : decode cX11_check 21 = .ok (.aload_n 0, 1) := by decide +kernel
theorem dX11_check_22 : decode cX11_check 22 = .ok (.getfield 25, 3) := by decide +kernel
theorem dX11_check_25 : decode cX11_check 25 = .ok (.getfield 138, 3) := by decide +kernel
theorem dX11_check_28 : decode cX11_check 28 = .ok (.if_icmp .le 6, 3) := by decide +kernel
theorem dX11_check_31 : decode cX11_check 31 = .ok (.bipush (-2), 2) := by decide +kernel
theorem dX11_check_33 : decode cX11_check 33 = .ok (.ireturn, 1) := by decide +kernel
theorem dX11_check_34 : decode cX11_check 34 = .ok (.iconst (-1), 1) := by decide +kernel
theorem dX11_check_35 : decode cX11_check 35 = .ok (.istore_n 3, 1) := by decide +kernel
theorem dX11_check_36 : decode cX11_check 36 = .ok (.iconst 0, 1) := by decide +kernel
theorem dX11_check_37 : decode cX11_check 37 = .ok (.istore 4, 2) := by decide +kernel
theorem dX11_check_39 : decode cX11_check 39 = .ok (.iload 4, 2) := by decide +kernel
theorem dX11_check_41 : decode cX11_check 41 = .ok (.iload_n 2, 1) := by decide +kernel
theorem dX11_check_42 : decode cX11_check 42 = .ok (.if_icmp .ge 74, 3) := by decide +kernel
theorem dX11_check_45 : decode cX11_check 45 = .ok (.iload_n 3, 1) := by decide +kernel
theorem dX11_check_46 : decode cX11_check 46 = .ok (.iconst (-1), 1) := by decide +kernel
theorem dX11_check_47 : decode cX11_check 47 = .ok (.if_icmp .ne 69, 3) := by decide +kernel
theorem dX11_check_50 : decode cX11_check 50 = .ok (.iload 4, 2) := by decide +kernel
theorem dX11_check_52 : decode cX11_check 52 = .ok (.aload_n 0, 1) := by decide +kernel
theorem dX11_check_53 : decode cX11_check 53 = .ok (.getfield 10, 3) := by decide +kernel
theorem dX11_check_56 : decode cX11_check 56 = .ok (.getfield 111, 3) := by decide +kernel
theorem dX11_check_59 : decode cX11_check 59 = .ok (.if_icmp .ge 36, 3) := by decide +kernel
theorem dX11_check_62 : decode cX11_check 62 = .ok (.aload_n 0, 1) := by decide +kernel
theorem dX11_check_63 : decode cX11_check 63 = .ok (.getfield 25, 3) := by decide +kernel
theorem dX11_check_66 : decode cX11_check 66 = .ok (.iconst 4, 1) := by decide +kernel
theorem dX11_check_67 : decode cX11_check 67 = .ok (.iload 4, 2) := by decide +kernel
theorem dX11_check_69 : decode cX11_check 69 = .ok (.imul, 1) := by decide +kernel
theorem dX11_check_70 : decode cX11_check 70 = .ok (.invokevirtual 308, 3) := by decide +kernel
theorem dX11_check_73 : decode cX11_check 73 = .ok (.aload_n 0, 1) := by decide +kernel
theorem dX11_check_74 : decode cX11_check 74 = .ok (.getfield 10, 3) := by decide +kernel
theorem dX11_check_77 : decode cX11_check 77 = .ok (.getfield 101, 3) := by decide +kernel
theorem dX11_check_80 : decode cX11_check 80 = .ok (.iload_n 1, 1) := by decide +kernel
theorem dX11_check_81 : decode cX11_check 81 = .ok (.aaload, 1) := by decide +kernel
theorem dX11_check_82 : decode cX11_check 82 = .ok (.getfield 217, 3) := by decide +kernel
theorem dX11_check_85 : decode cX11_check 85 = .ok (.iload 4, 2) := by decide +kernel
theorem dX11_check_87 : decode cX11_check 87 = .ok (.iaload, 1) := by decide +kernel
theorem dX11_check_88 : decode cX11_check 88 = .ok (.if_icmp .ne 7, 3) := by decide +kernel
theorem dX11_check_91 : decode cX11_check 91 = .ok (.iconst 1, 1) := by decide +kernel
theorem dX11_check_92 : decode cX11_check 92 = .ok (.goto 4, 3) := by decide +kernel
theorem dX11_check_95 : decode cX11_check 95 = .ok (.iconst 0, 1) := by decide +kernel
theorem dX11_check_96 : decode cX11_check 96 = .ok (.istore 5, 2) := by decide +kernel
theorem dX11_check_98 : decode cX11_check 98 = .ok (.iload 5, 2) := by decide +kernel
theorem dX11_check_100 : decode cX11_check 100 = .ok (.ifCond .eq 7, 3) := by decide +kernel
theorem dX11_check_103 : decode cX11_check 103 = .ok (.iconst (-1), 1) := by decide +kernel
theorem dX11_check_104 : decode cX11_check 104 = .ok (.goto 5, 3) := by decide +kernel
theorem dX11_check_107 : decode cX11_check 107 = .ok (.iload 4, 2) := by decide +kernel
theorem dX11_check_109 : decode cX11_check 109 = .ok (.istore_n 3, 1) := by decide +kernel
theorem dX11_check_110 : decode cX11_check 110 = .ok (.iinc 4 1, 3) := by decide +kernel
theorem dX11_check_113 : decode cX11_check 113 = .ok (.goto (-74), 3) := by decide +kernel
theorem dX11_check_116 : decode cX11_check 116 = .ok (.aload_n 0, 1) := by decide +kernel
theorem dX11_check_117 : decode cX11_check 117 = .ok (.getfield 25, 3) := by decide +kernel
theorem dX11_check_120 : decode cX11_check 120 = .ok (.invokevirtual 149, 3) := by decide +kernel
theorem dX11_check_123 : decode cX11_check 123 = .ok (.iload_n 3, 1) := by decide +kernel
theorem dX11_check_124 : decode cX11_check 124 = .ok (.ireturn, 1) := by decide +kernel
theorem dX11_count_0 : decode cX11_count 0 = .ok (.iload_n 1, 1) := by decide +kernel
theorem dX11_count_1 : decode cX11_count 1 = .ok (.tableswitch 123 0 8 #[51, 59, 67, 75, 83, 91, 99, 107, 115], 51) := by decide +kernel
theorem dX11_count_52 : decode cX11_count 52 = .ok (.aload_n 0, 1) := by decide +kernel
theorem dX11_count_53 : decode cX11_count 53 = .ok (.getfield 10, 3) := by decide +kernel
theorem dX11_count_56 : decode cX11_count 56 = .ok (.getfield 311, 3) := by decide +kernel
theorem dX11_count_59 : decode cX11_count 59 = .ok (.ireturn, 1) := by decide +kernel
theorem dX11_count_60 : decode cX11_count 60 = .ok (.aload_n 0, 1) := by decide +kernel
theorem dX11_count_61 : decode cX11_count 61 = .ok (.getfield 10, 3) := by decide +kernel
theorem dX11_count_64 : decode cX11_count 64 = .ok (.getfield 94, 3) := by decide +kernel
theorem dX11_count_67 : decode cX11_count 67 = .ok (.ireturn, 1) := by decide +kernel
theorem dX11_count_68 : decode cX11_count 68 = .ok (.aload_n 0, 1) := by decide +kernel
theorem dX11_count_69 : decode cX11_count 69 = .ok (.getfield 10, 3) := by decide +kernel
theorem dX11_count_72 : decode cX11_count 72 = .ok (.getfield 111, 3) := by decide +kernel
theorem dX11_count_75 : decode cX11_count 75 = .ok (.ireturn, 1) := by decide +kernel
theorem dX11_count_76 : decode cX11_count 76 = .ok (.aload_n 0, 1) := by decide +kernel
theorem dX11_count_77 : decode cX11_count 77 = .ok (.getfield 71, 3) := by decide +kernel
theorem dX11_count_80 : decode cX11_count 80 = .ok (.getfield 314, 3) := by decide +kernel
theorem dX11_count_83 : decode cX11_count 83 = .ok (.ireturn, 1) := by decide +kernel
theorem dX11_count_84 : decode cX11_count 84 = .ok (.aload_n 0, 1) := by decide +kernel
theorem dX11_count_85 : decode cX11_count 85 = .ok (.getfield 25, 3) := by decide +kernel
theorem dX11_count_88 : decode cX11_count 88 = .ok (.getfield 138, 3) := by decide +kernel
theorem dX11_count_91 : decode cX11_count 91 = .ok (.ireturn, 1) := by decide +kernel
theorem dX11_count_92 : decode cX11_count 92 = .ok (.aload_n 0, 1) := by decide +kernel
theorem dX11_count_93 : decode cX11_count 93 = .ok (.getfield 10, 3) := by decide +kernel
theorem dX11_count_96 : decode cX11_count 96 = .ok (.getfield 299, 3) := by decide +kernel
theorem dX11_count_99 : decode cX11_count 99 = .ok (.ireturn, 1) := by decide +kernel
theorem dX11_count_100 : decode cX11_count 100 = .ok (.aload_n 0, 1) := by decide +kernel
theorem dX11_count_101 : decode cX11_count 101 = .ok (.getfield 10, 3) := by decide +kernel
theorem dX11_count_104 : decode cX11_count 104 = .ok (.invokevirtual 175, 3) := by decide +kernel
theorem dX11_count_107 : decode cX11_count 107 = .ok (.ireturn, 1) := by decide +kernel
theorem dX11_count_108 : decode cX11_count 108 = .ok (.aload_n 0, 1) := by decide +kernel
theorem dX11_count_109 : decode cX11_count 109 = .ok (.getfield 10, 3) := by decide +kernel
theorem dX11_count_112 : decode cX11_count 112 = .ok (.getfield 317, 3) := by decide +kernel
theorem dX11_count_115 : decode cX11_count 115 = .ok (.ireturn, 1) := by decide +kernel
theorem dX11_count_116 : decode cX11_count 116 = .ok (.aload_n 0, 1) := by decide +kernel
theorem dX11_count_117 : decode cX11_count 117 = .ok (.getfield 10, 3) := by decide +kernel
theorem dX11_count_120 : decode cX11_count 120 = .ok (.getfield 320, 3) := by decide +kernel
theorem dX11_count_123 : decode cX11_count 123 = .ok (.ireturn, 1) := by decide +kernel
theorem dX11_count_124 : decode cX11_count 124 = .ok (.iconst (-1), 1) := by decide +kernel
theorem dX11_count_125 : decode cX11_count 125 = .ok (.ireturn, 1) := by decide +kernel
theorem dX11_isWithin_0 : decode cX11_isWithin 0 = .ok (.iload_n 0, 1) := by decide +kernel
theorem dX11_isWithin_1 : decode cX11_isWithin 1 = .ok (.iload_n 1, 1) := by decide +kernel
theorem dX11_isWithin_2 : decode cX11_isWithin 2 = .ok (.if_icmp .lt 12, 3) := by decide +kernel
theorem dX11_isWithin_5 : decode cX11_isWithin 5 = .ok (.iload_n 0, 1) := by decide +kernel
theorem dX11_isWithin_6 : decode cX11_isWithin 6 = .ok (.iload_n 2, 1) := by decide +kernel
theorem dX11_isWithin_7 : decode cX11_isWithin 7 = .ok (.if_icmp .gt 7, 3) := by decide +kernel
theorem dX11_isWithin_10 : decode cX11_isWithin 10 = .ok (.iconst 1, 1) := by decide +kernel
theorem dX11_isWithin_11 : decode cX11_isWithin 11 = .ok (.goto 4, 3) := by decide +kernel
theorem dX11_isWithin_14 : decode cX11_isWithin 14 = .ok (.iconst 0, 1) := by decide +kernel
theorem dX11_isWithin_15 : decode cX11_isWithin 15 = .ok (.ireturn, 1) := by decide +kernel
theorem dX11_isSquare_0 : decode cX11_isSquare 0 = .ok (.iload_n 0, 1) := by decide +kernel
theorem dX11_isSquare_1 : decode cX11_isSquare 1 = .ok (.iconst 0, 1) := by decide +kernel
theorem dX11_isSquare_2 : decode cX11_isSquare 2 = .ok (.bipush 9, 2) := by decide +kernel
theorem dX11_isSquare_4 : decode cX11_isSquare 4 = .ok (.invokestatic 90, 3) := by decide +kernel
theorem dX11_isSquare_7 : decode cX11_isSquare 7 = .ok (.ifCond .eq 17, 3) := by decide +kernel
theorem dX11_isSquare_10 : decode cX11_isSquare 10 = .ok (.iload_n 1, 1) := by decide +kernel
theorem dX11_isSquare_11 : decode cX11_isSquare 11 = .ok (.iconst 0, 1) := by decide +kernel
theorem dX11_isSquare_12 : decode cX11_isSquare 12 = .ok (.bipush 9, 2) := by decide +kernel
theorem dX11_isSquare_14 : decode cX11_isSquare 14 = .ok (.invokestatic 90, 3) := by decide +kernel
theorem dX11_isSquare_17 : decode cX11_isSquare 17 = .ok (.ifCond .eq 7, 3) := by decide +kernel
theorem dX11_isSquare_20 : decode cX11_isSquare 20 = .ok (.iconst 1, 1) := by decide +kernel
theorem dX11_isSquare_21 : decode cX11_isSquare 21 = .ok (.goto 4, 3) := by decide +kernel
theorem dX11_isSquare_24 : decode cX11_isSquare 24 = .ok (.iconst 0, 1) := by decide +kernel
theorem dX11_isSquare_25 : decode cX11_isSquare 25 = .ok (.ireturn, 1) := by decide +kernel
theorem dX11_isColour_0 : decode cX11_isColour 0 = .ok (.iload_n 0, 1) := by decide +kernel
theorem dX11_isColour_1 : decode cX11_isColour 1 = .ok (.iconst 0, 1) := by decide +kernel
theorem dX11_isColour_2 : decode cX11_isColour 2 = .ok (.iconst 4, 1) := by decide +kernel
theorem dX11_isColour_3 : decode cX11_isColour 3 = .ok (.invokestatic 90, 3) := by decide +kernel
theorem dX11_isColour_6 : decode cX11_isColour 6 = .ok (.ireturn, 1) := by decide +kernel
theorem dX11_lowestTerms_0 : decode cX11_lowestTerms 0 = .ok (.lload_n 2, 1) := by decide +kernel
theorem dX11_lowestTerms_1 : decode cX11_lowestTerms 1 = .ok (.lstore 5, 2) := by decide +kernel
theorem dX11_lowestTerms_3 : decode cX11_lowestTerms 3 = .ok (.lload_n 0, 1) := by decide +kernel
theorem dX11_lowestTerms_4 : decode cX11_lowestTerms 4 = .ok (.lstore 7, 2) := by decide +kernel
theorem dX11_lowestTerms_6 : decode cX11_lowestTerms 6 = .ok (.iconst 0, 1) := by decide +kernel
theorem dX11_lowestTerms_7 : decode cX11_lowestTerms 7 = .ok (.istore 9, 2) := by decide +kernel
theorem dX11_lowestTerms_9 : decode cX11_lowestTerms 9 = .ok (.iload 9, 2) := by decide +kernel
theorem dX11_lowestTerms_11 : decode cX11_lowestTerms 11 = .ok (.sipush 200, 3) := by decide +kernel
theorem dX11_lowestTerms_14 : decode cX11_lowestTerms 14 = .ok (.if_icmp .ge 31, 3) := by decide +kernel
theorem dX11_lowestTerms_17 : decode cX11_lowestTerms 17 = .ok (.lload 7, 2) := by decide +kernel
theorem dX11_lowestTerms_19 : decode cX11_lowestTerms 19 = .ok (.lconst 0, 1) := by decide +kernel
theorem dX11_lowestTerms_20 : decode cX11_lowestTerms 20 = .ok (.lcmp, 1) := by decide +kernel
theorem dX11_lowestTerms_21 : decode cX11_lowestTerms 21 = .ok (.ifCond .eq 24, 3) := by decide +kernel
theorem dX11_lowestTerms_24 : decode cX11_lowestTerms 24 = .ok (.lload 5, 2) := by decide +kernel
theorem dX11_lowestTerms_26 : decode cX11_lowestTerms 26 = .ok (.lload 7, 2) := by decide +kernel
theorem dX11_lowestTerms_28 : decode cX11_lowestTerms 28 = .ok (.lrem, 1) := by decide +kernel
theorem dX11_lowestTerms_29 : decode cX11_lowestTerms 29 = .ok (.lstore 10, 2) := by decide +kernel
theorem dX11_lowestTerms_31 : decode cX11_lowestTerms 31 = .ok (.lload 7, 2) := by decide +kernel
theorem dX11_lowestTerms_33 : decode cX11_lowestTerms 33 = .ok (.lstore 5, 2) := by decide +kernel
theorem dX11_lowestTerms_35 : decode cX11_lowestTerms 35 = .ok (.lload 10, 2) := by decide +kernel
theorem dX11_lowestTerms_37 : decode cX11_lowestTerms 37 = .ok (.lstore 7, 2) := by decide +kernel
theorem dX11_lowestTerms_39 : decode cX11_lowestTerms 39 = .ok (.iinc 9 1, 3) := by decide +kernel
theorem dX11_lowestTerms_42 : decode cX11_lowestTerms 42 = .ok (.goto (-33), 3) := by decide +kernel
theorem dX11_lowestTerms_45 : decode cX11_lowestTerms 45 = .ok (.iload 4, 2) := by decide +kernel
theorem dX11_lowestTerms_47 : decode cX11_lowestTerms 47 = .ok (.ifCond .ne 7, 3) := by decide +kernel
theorem dX11_lowestTerms_50 : decode cX11_lowestTerms 50 = .ok (.lload_n 0, 1) := by decide +kernel
theorem dX11_lowestTerms_51 : decode cX11_lowestTerms 51 = .ok (.goto 4, 3) := by decide +kernel
theorem dX11_lowestTerms_54 : decode cX11_lowestTerms 54 = .ok (.lload_n 2, 1) := by decide +kernel
theorem dX11_lowestTerms_55 : decode cX11_lowestTerms 55 = .ok (.lstore 9, 2) := by decide +kernel
theorem dX11_lowestTerms_57 : decode cX11_lowestTerms 57 = .ok (.lload 5, 2) := by decide +kernel
theorem dX11_lowestTerms_59 : decode cX11_lowestTerms 59 = .ok (.lconst 0, 1) := by decide +kernel
theorem dX11_lowestTerms_60 : decode cX11_lowestTerms 60 = .ok (.lcmp, 1) := by decide +kernel
theorem dX11_lowestTerms_61 : decode cX11_lowestTerms 61 = .ok (.ifCond .ne 8, 3) := by decide +kernel
theorem dX11_lowestTerms_64 : decode cX11_lowestTerms 64 = .ok (.lload 9, 2) := by decide +kernel
theorem dX11_lowestTerms_66 : decode cX11_lowestTerms 66 = .ok (.goto 8, 3) := by decide +kernel
theorem dX11_lowestTerms_69 : decode cX11_lowestTerms 69 = .ok (.lload 9, 2) := by decide +kernel
theorem dX11_lowestTerms_71 : decode cX11_lowestTerms 71 = .ok (.lload 5, 2) := by decide +kernel
theorem dX11_lowestTerms_73 : decode cX11_lowestTerms 73 = .ok (.ldiv, 1) := by decide +kernel
theorem dX11_lowestTerms_74 : decode cX11_lowestTerms 74 = .ok (.lreturn, 1) := by decide +kernel
theorem dX11_hasStack_0 : decode cX11_hasStack 0 = .ok (.iload_n 1, 1) := by decide +kernel
theorem dX11_hasStack_1 : decode cX11_hasStack 1 = .ok (.iconst 0, 1) := by decide +kernel
theorem dX11_hasStack_2 : decode cX11_hasStack 2 = .ok (.aload_n 0, 1) := by decide +kernel
theorem dX11_hasStack_3 : decode cX11_hasStack 3 = .ok (.getfield 10, 3) := by decide +kernel
theorem dX11_hasStack_6 : decode cX11_hasStack 6 = .ok (.getfield 94, 3) := by decide +kernel
theorem dX11_hasStack_9 : decode cX11_hasStack 9 = .ok (.iconst 1, 1) := by decide +kernel
theorem dX11_hasStack_10 : decode cX11_hasStack 10 = .ok (.isub, 1) := by decide +kernel
theorem dX11_hasStack_11 : decode cX11_hasStack 11 = .ok (.invokestatic 90, 3) := by decide +kernel
theorem dX11_hasStack_14 : decode cX11_hasStack 14 = .ok (.ireturn, 1) := by decide +kernel
theorem dX11_isStanding_0 : decode cX11_isStanding 0 = .ok (.aload_n 0, 1) := by decide +kernel
theorem dX11_isStanding_1 : decode cX11_isStanding 1 = .ok (.iload_n 1, 1) := by decide +kernel
theorem dX11_isStanding_2 : decode cX11_isStanding 2 = .ok (.invokevirtual 166, 3) := by decide +kernel
theorem dX11_isStanding_5 : decode cX11_isStanding 5 = .ok (.ifCond .eq 22, 3) := by decide +kernel
theorem dX11_isStanding_8 : decode cX11_isStanding 8 = .ok (.aload_n 0, 1) := by decide +kernel
theorem dX11_isStanding_9 : decode cX11_isStanding 9 = .ok (.getfield 10, 3) := by decide +kernel
theorem dX11_isStanding_12 : decode cX11_isStanding 12 = .ok (.getfield 101, 3) := by decide +kernel
theorem dX11_isStanding_15 : decode cX11_isStanding 15 = .ok (.iload_n 1, 1) := by decide +kernel
theorem dX11_isStanding_16 : decode cX11_isStanding 16 = .ok (.aaload, 1) := by decide +kernel
theorem dX11_isStanding_17 : decode cX11_isStanding 17 = .ok (.getfield 203, 3) := by decide +kernel
theorem dX11_isStanding_20 : decode cX11_isStanding 20 = .ok (.ifCond .eq 7, 3) := by decide +kernel
theorem dX11_isStanding_23 : decode cX11_isStanding 23 = .ok (.iconst 1, 1) := by decide +kernel
theorem dX11_isStanding_24 : decode cX11_isStanding 24 = .ok (.goto 4, 3) := by decide +kernel
theorem dX11_isStanding_27 : decode cX11_isStanding 27 = .ok (.iconst 0, 1) := by decide +kernel
theorem dX11_isStanding_28 : decode cX11_isStanding 28 = .ok (.ireturn, 1) := by decide +kernel
theorem dX11_hasCow_0 : decode cX11_hasCow 0 = .ok (.iload_n 1, 1) := by decide +kernel
theorem dX11_hasCow_1 : decode cX11_hasCow 1 = .ok (.iconst 0, 1) := by decide +kernel
theorem dX11_hasCow_2 : decode cX11_hasCow 2 = .ok (.aload_n 0, 1) := by decide +kernel
theorem dX11_hasCow_3 : decode cX11_hasCow 3 = .ok (.getfield 10, 3) := by decide +kernel
theorem dX11_hasCow_6 : decode cX11_hasCow 6 = .ok (.getfield 111, 3) := by decide +kernel
theorem dX11_hasCow_9 : decode cX11_hasCow 9 = .ok (.iconst 1, 1) := by decide +kernel
theorem dX11_hasCow_10 : decode cX11_hasCow 10 = .ok (.isub, 1) := by decide +kernel
theorem dX11_hasCow_11 : decode cX11_hasCow 11 = .ok (.invokestatic 90, 3) := by decide +kernel
theorem dX11_hasCow_14 : decode cX11_hasCow 14 = .ok (.ireturn, 1) := by decide +kernel
theorem dX12_init_0 : decode cX12_init 0 = .ok (.aload_n 0, 1) := by decide +kernel
theorem dX12_init_1 : decode cX12_init 1 = .ok (.invokespecial 1, 3) := by decide +kernel
theorem dX12_init_4 : decode cX12_init 4 = .ok (.aload_n 0, 1) := by decide +kernel
theorem dX12_init_5 : decode cX12_init 5 = .ok (.sipush 220, 3) := by decide +kernel
theorem dX12_init_8 : decode cX12_init 8 = .ok (.newarray .byte, 2) := by decide +kernel
theorem dX12_init_10 : decode cX12_init 10 = .ok (.putfield 7, 3) := by decide +kernel
theorem dX12_init_13 : decode cX12_init 13 = .ok (.aload_n 0, 1) := by decide +kernel
theorem dX12_init_14 : decode cX12_init 14 = .ok (.iconst 1, 1) := by decide +kernel
theorem dX12_init_15 : decode cX12_init 15 = .ok (.putfield 13, 3) := by decide +kernel
theorem dX12_init_18 : decode cX12_init 18 = .ok (.aload_n 0, 1) := by decide +kernel
theorem dX12_init_19 : decode cX12_init 19 = .ok (.iconst (-1), 1) := by decide +kernel
theorem dX12_init_20 : decode cX12_init 20 = .ok (.putfield 17, 3) := by decide +kernel
theorem dX12_init_23 : decode cX12_init 23 = .ok (.aload_n 0, 1) := by decide +kernel
theorem dX12_init_24 : decode cX12_init 24 = .ok (.bipush 12, 2) := by decide +kernel
theorem dX12_init_26 : decode cX12_init 26 = .ok (.newarray .int, 2) := by decide +kernel
theorem dX12_init_28 : decode cX12_init 28 = .ok (.putfield 20, 3) := by decide +kernel
theorem dX12_init_31 : decode cX12_init 31 = .ok (.aload_n 0, 1) := by decide +kernel
theorem dX12_init_32 : decode cX12_init 32 = .ok (.bipush 12, 2) := by decide +kernel
theorem dX12_init_34 : decode cX12_init 34 = .ok (.newarray .int, 2) := by decide +kernel
theorem dX12_init_36 : decode cX12_init 36 = .ok (.putfield 24, 3) := by decide +kernel
theorem dX12_init_39 : decode cX12_init 39 = .ok (.aload_n 0, 1) := by decide +kernel
theorem dX12_init_40 : decode cX12_init 40 = .ok (.bipush 12, 2) := by decide +kernel
theorem dX12_init_42 : decode cX12_init 42 = .ok (.newarray .int, 2) := by decide +kernel
theorem dX12_init_44 : decode cX12_init 44 = .ok (.putfield 27, 3) := by decide +kernel
theorem dX12_init_47 : decode cX12_init 47 = .ok (.aload_n 0, 1) := by decide +kernel
theorem dX12_init_48 : decode cX12_init 48 = .ok (.bipush 12, 2) := by decide +kernel
theorem dX12_init_50 : decode cX12_init 50 = .ok (.newarray .int, 2) := by decide +kernel
theorem dX12_init_52 : decode cX12_init 52 = .ok (.putfield 30, 3) := by decide +kernel
theorem dX12_init_55 : decode cX12_init 55 = .ok (.aload_n 0, 1) := by decide +kernel
theorem dX12_init_56 : decode cX12_init 56 = .ok (.bipush 12, 2) := by decide +kernel
theorem dX12_init_58 : decode cX12_init 58 = .ok (.newarray .int, 2) := by decide +kernel
theorem dX12_init_60 : decode cX12_init 60 = .ok (.putfield 33, 3) := by decide +kernel
theorem dX12_init_63 : decode cX12_init 63 = .ok (.aload_n 0, 1) := by decide +kernel
theorem dX12_init_64 : decode cX12_init 64 = .ok (.bipush 12, 2) := by decide +kernel
theorem dX12_init_66 : decode cX12_init 66 = .ok (.newarray .int, 2) := by decide +kernel
theorem dX12_init_68 : decode cX12_init 68 = .ok (.putfield 36, 3) := by decide +kernel
theorem dX12_init_71 : decode cX12_init 71 = .ok (.aload_n 0, 1) := by decide +kernel
theorem dX12_init_72 : decode cX12_init 72 = .ok (.bipush 12, 2) := by decide +kernel
theorem dX12_init_74 : decode cX12_init 74 = .ok (.newarray .boolean, 2) := by decide +kernel
theorem dX12_init_76 : decode cX12_init 76 = .ok (.putfield 39, 3) := by decide +kernel
theorem dX12_init_79 : decode cX12_init 79 = .ok (.aload_n 0, 1) := by decide +kernel
theorem dX12_init_80 : decode cX12_init 80 = .ok (.bipush 16, 2) := by decide +kernel
theorem dX12_init_82 : decode cX12_init 82 = .ok (.newarray .int, 2) := by decide +kernel
theorem dX12_init_84 : decode cX12_init 84 = .ok (.putfield 43, 3) := by decide +kernel
theorem dX12_init_87 : decode cX12_init 87 = .ok (.aload_n 0, 1) := by decide +kernel
theorem dX12_init_88 : decode cX12_init 88 = .ok (.bipush 16, 2) := by decide +kernel
theorem dX12_init_90 : decode cX12_init 90 = .ok (.newarray .int, 2) := by decide +kernel
theorem dX12_init_92 : decode cX12_init 92 = .ok (.putfield 46, 3) := by decide +kernel
theorem dX12_init_95 : decode cX12_init 95 = .ok (.aload_n 0, 1) := by decide +kernel
theorem dX12_init_96 : decode cX12_init 96 = .ok (.bipush 16, 2) := by decide +kernel
theorem dX12_init_98 : decode cX12_init 98 = .ok (.newarray .int, 2) := by decide +kernel
theorem dX12_init_100 : decode cX12_init 100 = .ok (.putfield 49, 3) := by decide +kernel
theorem dX12_init_103 : decode cX12_init 103 = .ok (.aload_n 0, 1) := by decide +kernel
theorem dX12_init_104 : decode cX12_init 104 = .ok (.bipush 16, 2) := by decide +kernel
theorem dX12_init_106 : decode cX12_init 106 = .ok (.newarray .int, 2) := by decide +kernel
theorem dX12_init_108 : decode cX12_init 108 = .ok (.putfield 52, 3) := by decide +kernel
theorem dX12_init_111 : decode cX12_init 111 = .ok (.aload_n 0, 1) := by decide +kernel
theorem dX12_init_112 : decode cX12_init 112 = .ok (.bipush 80, 2) := by decide +kernel
theorem dX12_init_114 : decode cX12_init 114 = .ok (.newarray .int, 2) := by decide +kernel
theorem dX12_init_116 : decode cX12_init 116 = .ok (.putfield 55, 3) := by decide +kernel
theorem dX12_init_119 : decode cX12_init 119 = .ok (.aload_n 0, 1) := by decide +kernel
theorem dX12_init_120 : decode cX12_init 120 = .ok (.iconst 5, 1) := by decide +kernel
theorem dX12_init_121 : decode cX12_init 121 = .ok (.newarray .int, 2) := by decide +kernel
theorem dX12_init_123 : decode cX12_init 123 = .ok (.putfield 58, 3) := by decide +kernel
theorem dX12_init_126 : decode cX12_init 126 = .ok (.aload_n 0, 1) := by decide +kernel
theorem dX12_init_127 : decode cX12_init 127 = .ok (.sipush 192, 3) := by decide +kernel
theorem dX12_init_130 : decode cX12_init 130 = .ok (.newarray .int, 2) := by decide +kernel
theorem dX12_init_132 : decode cX12_init 132 = .ok (.putfield 61, 3) := by decide +kernel
theorem dX12_init_135 : decode cX12_init 135 = .ok (.aload_n 0, 1) := by decide +kernel
theorem dX12_init_136 : decode cX12_init 136 = .ok (.bipush 14, 2) := by decide +kernel
theorem dX12_init_138 : decode cX12_init 138 = .ok (.newarray .int, 2) := by decide +kernel
theorem dX12_init_140 : decode cX12_init 140 = .ok (.putfield 64, 3) := by decide +kernel
theorem dX12_init_143 : decode cX12_init 143 = .ok (.aload_n 0, 1) := by decide +kernel
theorem dX12_init_144 : decode cX12_init 144 = .ok (.bipush 14, 2) := by decide +kernel
theorem dX12_init_146 : decode cX12_init 146 = .ok (.newarray .int, 2) := by decide +kernel
theorem dX12_init_148 : decode cX12_init 148 = .ok (.putfield 67, 3) := by decide +kernel
theorem dX12_init_151 : decode cX12_init 151 = .ok (.aload_n 0, 1) := by decide +kernel
theorem dX12_init_152 : decode cX12_init 152 = .ok (.bipush 14, 2) := by decide +kernel
theorem dX12_init_154 : decode cX12_init 154 = .ok (.newarray .int, 2) := by decide +kernel
theorem dX12_init_156 : decode cX12_init 156 = .ok (.putfield 70, 3) := by decide +kernel
theorem dX12_init_159 : decode cX12_init 159 = .ok (.aload_n 0, 1) := by decide +kernel
theorem dX12_init_160 : decode cX12_init 160 = .ok (.bipush 14, 2) := by decide +kernel
theorem dX12_init_162 : decode cX12_init 162 = .ok (.newarray .int, 2) := by decide +kernel
theorem dX12_init_164 : decode cX12_init 164 = .ok (.putfield 73, 3) := by decide +kernel
theorem dX12_init_167 : decode cX12_init 167 = .ok (.aload_n 0, 1) := by decide +kernel
theorem dX12_init_168 : decode cX12_init 168 = .ok (.sipush 200, 3) := by decide +kernel
theorem dX12_init_171 : decode cX12_init 171 = .ok (.newarray .int, 2) := by decide +kernel
theorem dX12_init_173 : decode cX12_init 173 = .ok (.putfield 76, 3) := by decide +kernel
theorem dX12_init_176 : decode cX12_init 176 = .ok (.aload_n 0, 1) := by decide +kernel
theorem dX12_init_177 : decode cX12_init 177 = .ok (.sipush 200, 3) := by decide +kernel
theorem dX12_init_180 : decode cX12_init 180 = .ok (.newarray .int, 2) := by decide +kernel
theorem dX12_init_182 : decode cX12_init 182 = .ok (.putfield 79, 3) := by decide +kernel
theorem dX12_init_185 : decode cX12_init 185 = .ok (.aload_n 0, 1) := by decide +kernel
theorem dX12_init_186 : decode cX12_init 186 = .ok (.bipush 14, 2) := by decide +kernel
theorem dX12_init_188 : decode cX12_init 188 = .ok (.newarray .int, 2) := by decide +kernel
theorem dX12_init_190 : decode cX12_init 190 = .ok (.putfield 82, 3) := by decide +kernel
theorem dX12_init_193 : decode cX12_init 193 = .ok (.aload_n 0, 1) := by decide +kernel
theorem dX12_init_194 : decode cX12_init 194 = .ok (.bipush 14, 2) := by decide +kernel
theorem dX12_init_196 : decode cX12_init 196 = .ok (.newarray .int, 2) := by decide +kernel
theorem dX12_init_198 : decode cX12_init 198 = .ok (.putfield 85, 3) := by decide +kernel
theorem dX12_init_201 : decode cX12_init 201 = .ok (.aload_n 0, 1) := by decide +kernel
theorem dX12_init_202 : decode cX12_init 202 = .ok (.bipush 14, 2) := by decide +kernel
theorem dX12_init_204 : decode cX12_init 204 = .ok (.newarray .int, 2) := by decide +kernel
theorem dX12_init_206 : decode cX12_init 206 = .ok (.putfield 88, 3) := by decide +kernel
theorem dX12_init_209 : decode cX12_init 209 = .ok (.aload_n 0, 1) := by decide +kernel
theorem dX12_init_210 : decode cX12_init 210 = .ok (.bipush 14, 2) := by decide +kernel
theorem dX12_init_212 : decode cX12_init 212 = .ok (.newarray .int, 2) := by decide +kernel
theorem dX12_init_214 : decode cX12_init 214 = .ok (.putfield 91, 3) := by decide +kernel
theorem dX12_init_217 : decode cX12_init 217 = .ok (.aload_n 0, 1) := by decide +kernel
theorem dX12_init_218 : decode cX12_init 218 = .ok (.sipush 200, 3) := by decide +kernel
theorem dX12_init_221 : decode cX12_init 221 = .ok (.newarray .int, 2) := by decide +kernel
theorem dX12_init_223 : decode cX12_init 223 = .ok (.putfield 94, 3) := by decide +kernel
theorem dX12_init_226 : decode cX12_init 226 = .ok (.aload_n 0, 1) := by decide +kernel
theorem dX12_init_227 : decode cX12_init 227 = .ok (.sipush 200, 3) := by decide +kernel
theorem dX12_init_230 : decode cX12_init 230 = .ok (.newarray .int, 2) := by decide +kernel
theorem dX12_init_232 : decode cX12_init 232 = .ok (.putfield 97, 3) := by decide +kernel
theorem dX12_init_235 : decode cX12_init 235 = .ok (.aload_n 0, 1) := by decide +kernel
theorem dX12_init_236 : decode cX12_init 236 = .ok (.sipush 240, 3) := by decide +kernel
theorem dX12_init_239 : decode cX12_init 239 = .ok (.newarray .int, 2) := by decide +kernel
theorem dX12_init_241 : decode cX12_init 241 = .ok (.putfield 100, 3) := by decide +kernel
theorem dX12_init_244 : decode cX12_init 244 = .ok (.aload_n 0, 1) := by decide +kernel
theorem dX12_init_245 : decode cX12_init 245 = .ok (.sipush 240, 3) := by decide +kernel
theorem dX12_init_248 : decode cX12_init 248 = .ok (.newarray .int, 2) := by decide +kernel
theorem dX12_init_250 : decode cX12_init 250 = .ok (.putfield 103, 3) := by decide +kernel
theorem dX12_init_253 : decode cX12_init 253 = .ok (.aload_n 0, 1) := by decide +kernel
theorem dX12_init_254 : decode cX12_init 254 = .ok (.sipush 240, 3) := by decide +kernel
theorem dX12_init_257 : decode cX12_init 257 = .ok (.newarray .boolean, 2) := by decide +kernel
theorem dX12_init_259 : decode cX12_init 259 = .ok (.putfield 106, 3) := by decide +kernel
theorem dX12_init_262 : decode cX12_init 262 = .ok (.aload_n 0, 1) := by decide +kernel
theorem dX12_init_263 : decode cX12_init 263 = .ok (.bipush 16, 2) := by decide +kernel
theorem dX12_init_265 : decode cX12_init 265 = .ok (.newarray .int, 2) := by decide +kernel
theorem dX12_init_267 : decode cX12_init 267 = .ok (.putfield 109, 3) := by decide +kernel
theorem dX12_init_270 : decode cX12_init 270 = .ok (.aload_n 0, 1) := by decide +kernel
theorem dX12_init_271 : decode cX12_init 271 = .ok (.bipush 24, 2) := by decide +kernel
theorem dX12_init_273 : decode cX12_init 273 = .ok (.newarray .int, 2) := by decide +kernel
theorem dX12_init_275 : decode cX12_init 275 = .ok (.putfield 112, 3) := by decide +kernel
theorem dX12_init_278 : decode cX12_init 278 = .ok (.aload_n 0, 1) := by decide +kernel
theorem dX12_init_279 : decode cX12_init 279 = .ok (.bipush 24, 2) := by decide +kernel
theorem dX12_init_281 : decode cX12_init 281 = .ok (.newarray .int, 2) := by decide +kernel
theorem dX12_init_283 : decode cX12_init 283 = .ok (.putfield 115, 3) := by decide +kernel
theorem dX12_init_286 : decode cX12_init 286 = .ok (.aload_n 0, 1) := by decide +kernel
theorem dX12_init_287 : decode cX12_init 287 = .ok (.bipush 24, 2) := by decide +kernel
theorem dX12_init_289 : decode cX12_init 289 = .ok (.newarray .int, 2) := by decide +kernel
theorem dX12_init_291 : decode cX12_init 291 = .ok (.putfield 118, 3) := by decide +kernel
theorem dX12_init_294 : decode cX12_init 294 = .ok (.aload_n 0, 1) := by decide +kernel
theorem dX12_init_295 : decode cX12_init 295 = .ok (.bipush 24, 2) := by decide +kernel
theorem dX12_init_297 : decode cX12_init 297 = .ok (.newarray .int, 2) := by decide +kernel
theorem dX12_init_299 : decode cX12_init 299 = .ok (.putfield 121, 3) := by decide +kernel
theorem dX12_init_302 : decode cX12_init 302 = .ok (.aload_n 0, 1) := by decide +kernel
theorem dX12_init_303 : decode cX12_init 303 = .ok (.bipush 24, 2) := by decide +kernel
theorem dX12_init_305 : decode cX12_init 305 = .ok (.newarray .int, 2) := by decide +kernel
theorem dX12_init_307 : decode cX12_init 307 = .ok (.putfield 124, 3) := by decide +kernel
theorem dX12_init_310 : decode cX12_init 310 = .ok (.aload_n 0, 1) := by decide +kernel
theorem dX12_init_311 : decode cX12_init 311 = .ok (.bipush 24, 2) := by decide +kernel
theorem dX12_init_313 : decode cX12_init 313 = .ok (.newarray .int, 2) := by decide +kernel
theorem dX12_init_315 : decode cX12_init 315 = .ok (.putfield 127, 3) := by decide +kernel
theorem dX12_init_318 : decode cX12_init 318 = .ok (.aload_n 0, 1) := by decide +kernel
theorem dX12_init_319 : decode cX12_init 319 = .ok (.bipush 24, 2) := by decide +kernel
theorem dX12_init_321 : decode cX12_init 321 = .ok (.newarray .boolean, 2) := by decide +kernel
theorem dX12_init_323 : decode cX12_init 323 = .ok (.putfield 130, 3) := by decide +kernel
theorem dX12_init_326 : decode cX12_init 326 = .ok (.aload_n 0, 1) := by decide +kernel
theorem dX12_init_327 : decode cX12_init 327 = .ok (.bipush 32, 2) := by decide +kernel
theorem dX12_init_329 : decode cX12_init 329 = .ok (.newarray .int, 2) := by decide +kernel
theorem dX12_init_331 : decode cX12_init 331 = .ok (.putfield 133, 3) := by decide +kernel
theorem dX12_init_334 : decode cX12_init 334 = .ok (.aload_n 0, 1) := by decide +kernel
theorem dX12_init_335 : decode cX12_init 335 = .ok (.bipush 32, 2) := by decide +kernel
theorem dX12_init_337 : decode cX12_init 337 = .ok (.newarray .int, 2) := by decide +kernel
theorem dX12_init_339 : decode cX12_init 339 = .ok (.putfield 136, 3) := by decide +kernel
theorem dX12_init_342 : decode cX12_init 342 = .ok (.aload_n 0, 1) := by decide +kernel
theorem dX12_init_343 : decode cX12_init 343 = .ok (.bipush 32, 2) := by decide +kernel
theorem dX12_init_345 : decode cX12_init 345 = .ok (.newarray .int, 2) := by decide +kernel
theorem dX12_init_347 : decode cX12_init 347 = .ok (.putfield 139, 3) := by decide +kernel
theorem dX12_init_350 : decode cX12_init 350 = .ok (.aload_n 0, 1) := by decide +kernel
theorem dX12_init_351 : decode cX12_init 351 = .ok (.bipush 32, 2) := by decide +kernel
theorem dX12_init_353 : decode cX12_init 353 = .ok (.newarray .int, 2) := by decide +kernel
theorem dX12_init_355 : decode cX12_init 355 = .ok (.putfield 142, 3) := by decide +kernel
theorem dX12_init_358 : decode cX12_init 358 = .ok (.aload_n 0, 1) := by decide +kernel
theorem dX12_init_359 : decode cX12_init 359 = .ok (.sipush 160, 3) := by decide +kernel
theorem dX12_init_362 : decode cX12_init 362 = .ok (.newarray .int, 2) := by decide +kernel
theorem dX12_init_364 : decode cX12_init 364 = .ok (.putfield 145, 3) := by decide +kernel
theorem dX12_init_367 : decode cX12_init 367 = .ok (.aload_n 0, 1) := by decide +kernel
theorem dX12_init_368 : decode cX12_init 368 = .ok (.bipush 10, 2) := by decide +kernel
theorem dX12_init_370 : decode cX12_init 370 = .ok (.newarray .int, 2) := by decide +kernel
theorem dX12_init_372 : decode cX12_init 372 = .ok (.putfield 148, 3) := by decide +kernel
theorem dX12_init_375 : decode cX12_init 375 = .ok (.aload_n 0, 1) := by decide +kernel
theorem dX12_init_376 : decode cX12_init 376 = .ok (.sipush 384, 3) := by decide +kernel
theorem dX12_init_379 : decode cX12_init 379 = .ok (.newarray .int, 2) := by decide +kernel
theorem dX12_init_381 : decode cX12_init 381 = .ok (.putfield 151, 3) := by decide +kernel
theorem dX12_init_384 : decode cX12_init 384 = .ok (.aload_n 0, 1) := by decide +kernel
theorem dX12_init_385 : decode cX12_init 385 = .ok (.bipush 12, 2) := by decide +kernel
theorem dX12_init_387 : decode cX12_init 387 = .ok (.newarray .int, 2) := by decide +kernel
theorem dX12_init_389 : decode cX12_init 389 = .ok (.putfield 154, 3) := by decide +kernel
theorem dX12_init_392 : decode cX12_init 392 = .ok (.aload_n 0, 1) := by decide +kernel
theorem dX12_init_393 : decode cX12_init 393 = .ok (.iconst 5, 1) := by decide +kernel
theorem dX12_init_394 : decode cX12_init 394 = .ok (.newarray .int, 2) := by decide +kernel
theorem dX12_init_396 : decode cX12_init 396 = .ok (.putfield 157, 3) := by decide +kernel
theorem dX12_init_399 : decode cX12_init 399 = .ok (.aload_n 0, 1) := by decide +kernel
theorem dX12_init_400 : decode cX12_init 400 = .ok (.iconst 4, 1) := by decide +kernel
theorem dX12_init_401 : decode cX12_init 401 = .ok (.newarray .int, 2) := by decide +kernel
theorem dX12_init_403 : decode cX12_init 403 = .ok (.putfield 160, 3) := by decide +kernel
theorem dX12_init_406 : decode cX12_init 406 = .ok (.aload_n 0, 1) := by decide +kernel
theorem dX12_init_407 : decode cX12_init 407 = .ok (.ldc 163, 2) := by decide +kernel
theorem dX12_init_409 : decode cX12_init 409 = .ok (.newarray .int, 2) := by decide +kernel
theorem dX12_init_411 : decode cX12_init 411 = .ok (.putfield 164, 3) := by decide +kernel
theorem dX12_init_414 : decode cX12_init 414 = .ok (.aload_n 0, 1) := by decide +kernel
theorem dX12_init_415 : decode cX12_init 415 = .ok (.iconst 5, 1) := by decide +kernel
theorem dX12_init_416 : decode cX12_init 416 = .ok (.newarray .int, 2) := by decide +kernel
theorem dX12_init_418 : decode cX12_init 418 = .ok (.putfield 167, 3) := by decide +kernel
theorem dX12_init_421 : decode cX12_init 421 = .ok (.aload_n 0, 1) := by decide +kernel
theorem dX12_init_422 : decode cX12_init 422 = .ok (.sipush 501, 3) := by decide +kernel
theorem dX12_init_425 : decode cX12_init 425 = .ok (.newarray .long, 2) := by decide +kernel
theorem dX12_init_427 : decode cX12_init 427 = .ok (.putfield 170, 3) := by decide +kernel
theorem dX12_init_430 : decode cX12_init 430 = .ok (.aload_n 0, 1) := by decide +kernel
theorem dX12_init_431 : decode cX12_init 431 = .ok (.sipush 501, 3) := by decide +kernel
theorem dX12_init_434 : decode cX12_init 434 = .ok (.newarray .long, 2) := by decide +kernel
theorem dX12_init_436 : decode cX12_init 436 = .ok (.putfield 174, 3) := by decide +kernel
theorem dX12_init_439 : decode cX12_init 439 = .ok (.aload_n 0, 1) := by decide +kernel
theorem dX12_init_440 : decode cX12_init 440 = .ok (.bipush 30, 2) := by decide +kernel
theorem dX12_init_442 : decode cX12_init 442 = .ok (.newarray .int, 2) := by decide +kernel
theorem dX12_init_444 : decode cX12_init 444 = .ok (.putfield 177, 3) := by decide +kernel
theorem dX12_init_447 : decode cX12_init 447 = .ok (.aload_n 0, 1) := by decide +kernel
theorem dX12_init_448 : decode cX12_init 448 = .ok (.bipush 30, 2) := by decide +kernel
theorem dX12_init_450 : decode cX12_init 450 = .ok (.newarray .int, 2) := by decide +kernel
theorem dX12_init_452 : decode cX12_init 452 = .ok (.putfield 180, 3) := by decide +kernel
theorem dX12_init_455 : decode cX12_init 455 = .ok (.aload_n 0, 1) := by decide +kernel
theorem dX12_init_456 : decode cX12_init 456 = .ok (.bipush 30, 2) := by decide +kernel
theorem dX12_init_458 : decode cX12_init 458 = .ok (.newarray .int, 2) := by decide +kernel
theorem dX12_init_460 : decode cX12_init 460 = .ok (.putfield 183, 3) := by decide +kernel
theorem dX12_init_463 : decode cX12_init 463 = .ok (.return_, 1) := by decide +kernel
theorem dX12_lies_0 : decode cX12_lies 0 = .ok (.lload_n 0, 1) := by decide +kernel
theorem dX12_lies_1 : decode cX12_lies 1 = .ok (.lload_n 2, 1) := by decide +kernel
theorem dX12_lies_2 : decode cX12_lies 2 = .ok (.lcmp, 1) := by decide +kernel
theorem dX12_lies_3 : decode cX12_lies 3 = .ok (.ifCond .lt 14, 3) := by decide +kernel
theorem dX12_lies_6 : decode cX12_lies 6 = .ok (.lload_n 0, 1) := by decide +kernel
theorem dX12_lies_7 : decode cX12_lies 7 = .ok (.lload 4, 2) := by decide +kernel
theorem dX12_lies_9 : decode cX12_lies 9 = .ok (.lcmp, 1) := by decide +kernel
theorem dX12_lies_10 : decode cX12_lies 10 = .ok (.ifCond .gt 7, 3) := by decide +kernel
theorem dX12_lies_13 : decode cX12_lies 13 = .ok (.iconst 1, 1) := by decide +kernel
theorem dX12_lies_14 : decode cX12_lies 14 = .ok (.goto 4, 3) := by decide +kernel
theorem dX12_lies_17 : decode cX12_lies 17 = .ok (.iconst 0, 1) := by decide +kernel
theorem dX12_lies_18 : decode cX12_lies 18 = .ok (.ireturn, 1) := by decide +kernel
theorem dX12_has_0 : decode cX12_has 0 = .ok (.iload_n 0, 1) := by decide +kernel
theorem dX12_has_1 : decode cX12_has 1 = .ok (.iload_n 1, 1) := by decide +kernel
theorem dX12_has_2 : decode cX12_has 2 = .ok (.ishr, 1) := by decide +kernel
theorem dX12_has_3 : decode cX12_has 3 = .ok (.iconst 1, 1) := by decide +kernel
theorem dX12_has_4 : decode cX12_has 4 = .ok (.iand, 1) := by decide +kernel
theorem dX12_has_5 : decode cX12_has 5 = .ok (.iconst 1, 1) := by decide +kernel
theorem dX12_has_6 : decode cX12_has 6 = .ok (.if_icmp .ne 7, 3) := by decide +kernel
theorem dX12_has_9 : decode cX12_has 9 = .ok (.iconst 1, 1) := by decide +kernel
theorem dX12_has_10 : decode cX12_has 10 = .ok (.goto 4, 3) := by decide +kernel
theorem dX12_has_13 : decode cX12_has 13 = .ok (.iconst 0, 1) := by decide +kernel
theorem dX12_has_14 : decode cX12_has 14 = .ok (.ireturn, 1) := by decide +kernel
theorem dX12_isSide_0 : decode cX12_isSide 0 = .ok (.iload_n 0, 1) := by decide +kernel
theorem dX12_isSide_1 : decode cX12_isSide 1 = .ok (.i2l, 1) := by decide +kernel
theorem dX12_isSide_2 : decode cX12_isSide 2 = .ok (.lconst 0, 1) := by decide +kernel
theorem dX12_isSide_3 : decode cX12_isSide 3 = .ok (.ldc2_w 186, 3) := by decide +kernel
theorem dX12_isSide_6 : decode cX12_isSide 6 = .ok (.invokestatic 188, 3) := by decide +kernel
theorem dX12_isSide_9 : decode cX12_isSide 9 = .ok (.ireturn, 1) := by decide +kernel
theorem dX12_isStack_0 : decode cX12_isStack 0 = .ok (.iload_n 1, 1) := by decide +kernel
theorem dX12_isStack_1 : decode cX12_isStack 1 = .ok (.i2l, 1) := by decide +kernel
theorem dX12_isStack_2 : decode cX12_isStack 2 = .ok (.lconst 0, 1) := by decide +kernel
theorem dX12_isStack_3 : decode cX12_isStack 3 = .ok (.aload_n 0, 1) := by decide +kernel
theorem dX12_isStack_4 : decode cX12_isStack 4 = .ok (.getfield 192, 3) := by decide +kernel
theorem dX12_isStack_7 : decode cX12_isStack 7 = .ok (.iconst 1, 1) := by decide +kernel
theorem dX12_isStack_8 : decode cX12_isStack 8 = .ok (.isub, 1) := by decide +kernel
theorem dX12_isStack_9 : decode cX12_isStack 9 = .ok (.i2l, 1) := by decide +kernel
theorem dX12_isStack_10 : decode cX12_isStack 10 = .ok (.invokestatic 188, 3) := by decide +kernel
theorem dX12_isStack_13 : decode cX12_isStack 13 = .ok (.ireturn, 1) := by decide +kernel
theorem dX12_isThere_0 : decode cX12_isThere 0 = .ok (.aload_n 0, 1) := by decide +kernel
theorem dX12_isThere_1 : decode cX12_isThere 1 = .ok (.iload_n 1, 1) := by decide +kernel
theorem dX12_isThere_2 : decode cX12_isThere 2 = .ok (.invokevirtual 195, 3) := by decide +kernel
theorem dX12_isThere_5 : decode cX12_isThere 5 = .ok (.ifCond .eq 16, 3) := by decide +kernel
theorem dX12_isThere_8 : decode cX12_isThere 8 = .ok (.aload_n 0, 1) := by decide +kernel
theorem dX12_isThere_9 : decode cX12_isThere 9 = .ok (.getfield 39, 3) := by decide +kernel
theorem dX12_isThere_12 : decode cX12_isThere 12 = .ok (.iload_n 1, 1) := by decide +kernel
theorem dX12_isThere_13 : decode cX12_isThere 13 = .ok (.baload, 1) := by decide +kernel
theorem dX12_isThere_14 : decode cX12_isThere 14 = .ok (.ifCond .eq 7, 3) := by decide +kernel
theorem dX12_isThere_17 : decode cX12_isThere 17 = .ok (.iconst 1, 1) := by decide +kernel
theorem dX12_isThere_18 : decode cX12_isThere 18 = .ok (.goto 4, 3) := by decide +kernel
theorem dX12_isThere_21 : decode cX12_isThere 21 = .ok (.iconst 0, 1) := by decide +kernel
theorem dX12_isThere_22 : decode cX12_isThere 22 = .ok (.ireturn, 1) := by decide +kernel
theorem dX12_isCow_0 : decode cX12_isCow 0 = .ok (.iload_n 1, 1) := by decide +kernel
theorem dX12_isCow_1 : decode cX12_isCow 1 = .ok (.i2l, 1) := by decide +kernel
theorem dX12_isCow_2 : decode cX12_isCow 2 = .ok (.lconst 0, 1) := by decide +kernel
theorem dX12_isCow_3 : decode cX12_isCow 3 = .ok (.aload_n 0, 1) := by decide +kernel
theorem dX12_isCow_4 : decode cX12_isCow 4 = .ok (.getfield 199, 3) := by decide +kernel
theorem dX12_isCow_7 : decode cX12_isCow 7 = .ok (.iconst 1, 1) := by decide +kernel
theorem dX12_isCow_8 : decode cX12_isCow 8 = .ok (.isub, 1) := by decide +kernel
theorem dX12_isCow_9 : decode cX12_isCow 9 = .ok (.i2l, 1) := by decide +kernel
theorem dX12_isCow_10 : decode cX12_isCow 10 = .ok (.invokestatic 188, 3) := by decide +kernel
theorem dX12_isCow_13 : decode cX12_isCow 13 = .ok (.ireturn, 1) := by decide +kernel
theorem dX12_isColour_0 : decode cX12_isColour 0 = .ok (.iload_n 0, 1) := by decide +kernel
theorem dX12_isColour_1 : decode cX12_isColour 1 = .ok (.i2l, 1) := by decide +kernel
theorem dX12_isColour_2 : decode cX12_isColour 2 = .ok (.lconst 0, 1) := by decide +kernel
theorem dX12_isColour_3 : decode cX12_isColour 3 = .ok (.ldc2_w 202, 3) := by decide +kernel
theorem dX12_isColour_6 : decode cX12_isColour 6 = .ok (.invokestatic 188, 3) := by decide +kernel
theorem dX12_isColour_9 : decode cX12_isColour 9 = .ok (.ireturn, 1) := by decide +kernel
theorem dX12_isFull_0 : decode cX12_isFull 0 = .ok (.iload_n 0, 1) := by decide +kernel
theorem dX12_isFull_1 : decode cX12_isFull 1 = .ok (.i2l, 1) := by decide +kernel
theorem dX12_isFull_2 : decode cX12_isFull 2 = .ok (.lconst 0, 1) := by decide +kernel
theorem dX12_isFull_3 : decode cX12_isFull 3 = .ok (.ldc2_w 204, 3) := by decide +kernel
theorem dX12_isFull_6 : decode cX12_isFull 6 = .ok (.invokestatic 188, 3) := by decide +kernel
theorem dX12_isFull_9 : decode cX12_isFull 9 = .ok (.ireturn, 1) := by decide +kernel
theorem dX12_stack_0 : decode cX12_stack 0 = .ok (.iload_n 1, 1) := by decide +kernel
theorem dX12_stack_1 : decode cX12_stack 1 = .ok (.invokestatic 206, 3) := by decide +kernel
theorem dX12_stack_4 : decode cX12_stack 4 = .ok (.ifCond .eq 55, 3) := by decide +kernel
theorem dX12_stack_7 : decode cX12_stack 7 = .ok (.iload_n 2, 1) := by decide +kernel
theorem dX12_stack_8 : decode cX12_stack 8 = .ok (.invokestatic 206, 3) := by decide +kernel
theorem dX12_stack_11 : decode cX12_stack 11 = .ok (.ifCond .eq 48, 3) := by decide +kernel
theorem dX12_stack_14 : decode cX12_stack 14 = .ok (.iload_n 3, 1) := by decide +kernel
theorem dX12_stack_15 : decode cX12_stack 15 = .ok (.invokestatic 209, 3) := by decide +kernel
theorem dX12_stack_18 : decode cX12_stack 18 = .ok (.ifCond .eq 41, 3) := by decide +kernel
theorem dX12_stack_21 : decode cX12_stack 21 = .ok (.iload 4, 2) := by decide +kernel
theorem dX12_stack_23 : decode cX12_stack 23 = .ok (.i2l, 1) := by decide +kernel
theorem dX12_stack_24 : decode cX12_stack 24 = .ok (.lconst 0, 1) := by decide +kernel
theorem dX12_stack_25 : decode cX12_stack 25 = .ok (.ldc2_w 212, 3) := by decide +kernel
theorem dX12_stack_28 : decode cX12_stack 28 = .ok (.invokestatic 188, 3) := by decide +kernel
theorem dX12_stack_31 : decode cX12_stack 31 = .ok (.ifCond .eq 28, 3) := by decide +kernel
theorem dX12_stack_34 : decode cX12_stack 34 = .ok (.iload 5, 2) := by decide +kernel
theorem dX12_stack_36 : decode cX12_stack 36 = .ok (.invokestatic 214, 3) := by decide +kernel
theorem dX12_stack_39 : decode cX12_stack 39 = .ok (.ifCond .eq 20, 3) := by decide +kernel
theorem dX12_stack_42 : decode cX12_stack 42 = .ok (.iload 6, 2) := by decide +kernel
theorem dX12_stack_44 : decode cX12_stack 44 = .ok (.invokestatic 214, 3) := by decide +kernel
theorem dX12_stack_47 : decode cX12_stack 47 = .ok (.ifCond .eq 12, 3) := by decide +kernel
theorem dX12_stack_50 : decode cX12_stack 50 = .ok (.aload_n 0, 1) := by decide +kernel
theorem dX12_stack_51 : decode cX12_stack 51 = .ok (.getfield 192, 3) := by decide +kernel
theorem dX12_stack_54 : decode cX12_stack 54 = .ok (.bipush 12, 2) := by decide +kernel
theorem dX12_stack_56 : decode cX12_stack 56 = .ok (.if_icmp .ne 5, 3) := by decide +kernel
theorem dX12_stack_59 : decode cX12_stack 59 = .ok (.iconst (-1), 1) := by decide +kernel
theorem dX12_stack_60 : decode cX12_stack 60 = .ok (.ireturn, 1) := by decide +kernel
theorem dX12_stack_61 : decode cX12_stack 61 = .ok (.iconst 0, 1) := by decide +kernel
theorem dX12_stack_62 : decode cX12_stack 62 = .ok (.istore 7, 2) := by decide +kernel
theorem dX12_stack_64 : decode cX12_stack 64 = .ok (.iload 7, 2) := by decide +kernel
theorem dX12_stack_66 : decode cX12_stack 66 = .ok (.aload_n 0, 1) := by decide +kernel
theorem dX12_stack_67 : decode cX12_stack 67 = .ok (.getfield 192, 3) := by decide +kernel
theorem dX12_stack_70 : decode cX12_stack 70 = .ok (.if_icmp .ge 38, 3) := by decide +kernel
theorem dX12_stack_73 : decode cX12_stack 73 = .ok (.aload_n 0, 1) := by decide +kernel
theorem dX12_stack_74 : decode cX12_stack 74 = .ok (.getfield 39, 3) := by decide +kernel
theorem dX12_stack_77 : decode cX12_stack 77 = .ok (.iload 7, 2) := by decide +kernel
theorem dX12_stack_79 : decode cX12_stack 79 = .ok (.baload, 1) := by decide +kernel
theorem dX12_stack_80 : decode cX12_stack 80 = .ok (.ifCond .eq 22, 3) := by decide +kernel
theorem dX12_stack_83 : decode cX12_stack 83 = .ok (.aload_n 0, 1) := by decide +kernel
theorem dX12_stack_84 : decode cX12_stack 84 = .ok (.getfield 20, 3) := by decide +kernel
theorem dX12_stack_87 : decode cX12_stack 87 = .ok (.iload 7, 2) := by decide +kernel
theorem dX12_stack_89 : decode cX12_stack 89 = .ok (.iaload, 1) := by decide +kernel
theorem dX12_stack_90 : decode cX12_stack 90 = .ok (.bipush 10, 2) := by decide +kernel
theorem dX12_stack_92 : decode cX12_stack 92 = .ok (.iload_n 2, 1) := by decide +kernel
theorem dX12_stack_93 : decode cX12_stack 93 = .ok (.imul, 1) := by decide +kernel
theorem dX12_stack_94 : decode cX12_stack 94 = .ok (.iload_n 1, 1) := by decide +kernel
theorem dX12_stack_95 : decode cX12_stack 95 = .ok (.iadd, 1) := by decide +kernel
theorem dX12_stack_96 : decode cX12_stack 96 = .ok (.if_icmp .ne 6, 3) := by decide +kernel
theorem dX12_stack_99 : decode cX12_stack 99 = .ok (.bipush (-2), 2) := by decide +kernel
theorem dX12_stack_101 : decode cX12_stack 101 = .ok (.ireturn, 1) := by decide +kernel
theorem dX12_stack_102 : decode cX12_stack 102 = .ok (.iinc 7 1, 3) := by decide +kernel
theorem dX12_stack_105 : decode cX12_stack 105 = .ok (.goto (-41), 3) := by decide +kernel
theorem dX12_stack_108 : decode cX12_stack 108 = .ok (.aload_n 0, 1) := by decide +kernel
theorem dX12_stack_109 : decode cX12_stack 109 = .ok (.getfield 20, 3) := by decide +kernel
theorem dX12_stack_112 : decode cX12_stack 112 = .ok (.aload_n 0, 1) := by decide +kernel
theorem dX12_stack_113 : decode cX12_stack 113 = .ok (.getfield 192, 3) := by decide +kernel
theorem dX12_stack_116 : decode cX12_stack 116 = .ok (.bipush 10, 2) := by decide +kernel
theorem dX12_stack_118 : decode cX12_stack 118 = .ok (.iload_n 2, 1) := by decide +kernel
theorem dX12_stack_119 : decode cX12_stack 119 = .ok (.imul, 1) := by decide +kernel
theorem dX12_stack_120 : decode cX12_stack 120 = .ok (.iload_n 1, 1) := by decide +kernel
theorem dX12_stack_121 : decode cX12_stack 121 = .ok (.iadd, 1) := by decide +kernel
theorem dX12_stack_122 : decode cX12_stack 122 = .ok (.iastore, 1) := by decide +kernel
theorem dX12_stack_123 : decode cX12_stack 123 = .ok (.aload_n 0, 1) := by decide +kernel
theorem dX12_stack_124 : decode cX12_stack 124 = .ok (.getfield 24, 3) := by decide +kernel
theorem dX12_stack_127 : decode cX12_stack 127 = .ok (.aload_n 0, 1) := by decide +kernel
theorem dX12_stack_128 : decode cX12_stack 128 = .ok (.getfield 192, 3) := by decide +kernel
theorem dX12_stack_131 : decode cX12_stack 131 = .ok (.iload_n 3, 1) := by decide +kernel
theorem dX12_stack_132 : decode cX12_stack 132 = .ok (.iastore, 1) := by decide +kernel
theorem dX12_stack_133 : decode cX12_stack 133 = .ok (.aload_n 0, 1) := by decide +kernel
theorem dX12_stack_134 : decode cX12_stack 134 = .ok (.getfield 27, 3) := by decide +kernel
theorem dX12_stack_137 : decode cX12_stack 137 = .ok (.aload_n 0, 1) := by decide +kernel
theorem dX12_stack_138 : decode cX12_stack 138 = .ok (.getfield 192, 3) := by decide +kernel
theorem dX12_stack_141 : decode cX12_stack 141 = .ok (.iload 4, 2) := by decide +kernel
theorem dX12_stack_143 : decode cX12_stack 143 = .ok (.iastore, 1) := by decide +kernel
theorem dX12_stack_144 : decode cX12_stack 144 = .ok (.aload_n 0, 1) := by decide +kernel
theorem dX12_stack_145 : decode cX12_stack 145 = .ok (.getfield 30, 3) := by decide +kernel
theorem dX12_stack_148 : decode cX12_stack 148 = .ok (.aload_n 0, 1) := by decide +kernel
theorem dX12_stack_149 : decode cX12_stack 149 = .ok (.getfield 192, 3) := by decide +kernel
theorem dX12_stack_152 : decode cX12_stack 152 = .ok (.iload 5, 2) := by decide +kernel
theorem dX12_stack_154 : decode cX12_stack 154 = .ok (.iastore, 1) := by decide +kernel
theorem dX12_stack_155 : decode cX12_stack 155 = .ok (.aload_n 0, 1) := by decide +kernel
theorem dX12_stack_156 : decode cX12_stack 156 = .ok (.getfield 33, 3) := by decide +kernel
theorem dX12_stack_159 : decode cX12_stack 159 = .ok (.aload_n 0, 1) := by decide +kernel
theorem dX12_stack_160 : decode cX12_stack 160 = .ok (.getfield 192, 3) := by decide +kernel
theorem dX12_stack_163 : decode cX12_stack 163 = .ok (.iload 6, 2) := by decide +kernel
theorem dX12_stack_165 : decode cX12_stack 165 = .ok (.iastore, 1) := by decide +kernel
theorem dX12_stack_166 : decode cX12_stack 166 = .ok (.aload_n 0, 1) := by decide +kernel
theorem dX12_stack_167 : decode cX12_stack 167 = .ok (.getfield 36, 3) := by decide +kernel
theorem dX12_stack_170 : decode cX12_stack 170 = .ok (.aload_n 0, 1) := by decide +kernel
theorem dX12_stack_171 : decode cX12_stack 171 = .ok (.getfield 192, 3) := by decide +kernel
theorem dX12_stack_174 : decode cX12_stack 174 = .ok (.iconst 0, 1) := by decide +kernel
theorem dX12_stack_175 : decode cX12_stack 175 = .ok (.iastore, 1) := by decide +kernel
theorem dX12_stack_176 : decode cX12_stack 176 = .ok (.aload_n 0, 1) := by decide +kernel
theorem dX12_stack_177 : decode cX12_stack 177 = .ok (.getfield 39, 3) := by decide +kernel
theorem dX12_stack_180 : decode cX12_stack 180 = .ok (.aload_n 0, 1) := by decide +kernel
theorem dX12_stack_181 : decode cX12_stack 181 = .ok (.getfield 192, 3) := by decide +kernel
theorem dX12_stack_184 : decode cX12_stack 184 = .ok (.iconst 1, 1) := by decide +kernel
theorem dX12_stack_185 : decode cX12_stack 185 = .ok (.bastore, 1) := by decide +kernel
theorem dX12_stack_186 : decode cX12_stack 186 = .ok (.iconst 0, 1) := by decide +kernel
theorem dX12_stack_187 : decode cX12_stack 187 = .ok (.istore 7, 2) := by decide +kernel
theorem dX12_stack_189 : decode cX12_stack 189 = .ok (.iload 7, 2) := by decide +kernel
theorem dX12_stack_191 : decode cX12_stack 191 = .ok (.bipush 16, 2) := by decide +kernel
theorem dX12_stack_193 : decode cX12_stack 193 = .ok (.if_icmp .ge 25, 3) := by decide +kernel
theorem dX12_stack_196 : decode cX12_stack 196 = .ok (.aload_n 0, 1) := by decide +kernel
theorem dX12_stack_197 : decode cX12_stack 197 = .ok (.getfield 61, 3) := by decide +kernel
theorem dX12_stack_200 : decode cX12_stack 200 = .ok (.bipush 16, 2) := by decide +kernel
theorem dX12_stack_202 : decode cX12_stack 202 = .ok (.aload_n 0, 1) := by decide +kernel
theorem dX12_stack_203 : decode cX12_stack 203 = .ok (.getfield 192, 3) := by decide +kernel
theorem dX12_stack_206 : decode cX12_stack 206 = .ok (.imul, 1) := by decide +kernel
theorem dX12_stack_207 : decode cX12_stack 207 = .ok (.iload 7, 2) := by decide +kernel
theorem dX12_stack_209 : decode cX12_stack 209 = .ok (.iadd, 1) := by decide +kernel
theorem dX12_stack_210 : decode cX12_stack 210 = .ok (.iconst 0, 1) := by decide +kernel
theorem dX12_stack_211 : decode cX12_stack 211 = .ok (.iastore, 1) := by decide +kernel
theorem dX12_stack_212 : decode cX12_stack 212 = .ok (.iinc 7 1, 3) := by decide +kernel
theorem dX12_stack_215 : decode cX12_stack 215 = .ok (.goto (-26), 3) := by decide +kernel
theorem dX12_stack_218 : decode cX12_stack 218 = .ok (.aload_n 0, 1) := by decide +kernel
theorem dX12_stack_219 : decode cX12_stack 219 = .ok (.dup, 1) := by decide +kernel
theorem dX12_stack_220 : decode cX12_stack 220 = .ok (.getfield 192, 3) := by decide +kernel
theorem dX12_stack_223 : decode cX12_stack 223 = .ok (.iconst 1, 1) := by decide +kernel
theorem dX12_stack_224 : decode cX12_stack 224 = .ok (.iadd, 1) := by decide +kernel
theorem dX12_stack_225 : decode cX12_stack 225 = .ok (.putfield 192, 3) := by decide +kernel
theorem dX12_stack_228 : decode cX12_stack 228 = .ok (.aload_n 0, 1) := by decide +kernel
theorem dX12_stack_229 : decode cX12_stack 229 = .ok (.getfield 192, 3) := by decide +kernel
theorem dX12_stack_232 : decode cX12_stack 232 = .ok (.iconst 1, 1) := by decide +kernel
theorem dX12_stack_233 : decode cX12_stack 233 = .ok (.isub, 1) := by decide +kernel
theorem dX12_stack_234 : decode cX12_stack 234 = .ok (.ireturn, 1) := by decide +kernel
theorem dX12_cow_0 : decode cX12_cow 0 = .ok (.iload_n 1, 1) := by decide +kernel
theorem dX12_cow_1 : decode cX12_cow 1 = .ok (.invokestatic 206, 3) := by decide +kernel
theorem dX12_cow_4 : decode cX12_cow 4 = .ok (.ifCond .eq 32, 3) := by decide +kernel
theorem dX12_cow_7 : decode cX12_cow 7 = .ok (.iload_n 2, 1) := by decide +kernel
theorem dX12_cow_8 : decode cX12_cow 8 = .ok (.invokestatic 206, 3) := by decide +kernel
theorem dX12_cow_11 : decode cX12_cow 11 = .ok (.ifCond .eq 25, 3) := by decide +kernel
theorem dX12_cow_14 : decode cX12_cow 14 = .ok (.iload 4, 2) := by decide +kernel
theorem dX12_cow_16 : decode cX12_cow 16 = .ok (.i2l, 1) := by decide +kernel
theorem dX12_cow_17 : decode cX12_cow 17 = .ok (.lconst 1, 1) := by decide +kernel
theorem dX12_cow_18 : decode cX12_cow 18 = .ok (.ldc2_w 186, 3) := by decide +kernel
theorem dX12_cow_21 : decode cX12_cow 21 = .ok (.invokestatic 188, 3) := by decide +kernel
theorem dX12_cow_24 : decode cX12_cow 24 = .ok (.ifCond .eq 12, 3) := by decide +kernel
theorem dX12_cow_27 : decode cX12_cow 27 = .ok (.aload_n 0, 1) := by decide +kernel
theorem dX12_cow_28 : decode cX12_cow 28 = .ok (.getfield 199, 3) := by decide +kernel
theorem dX12_cow_31 : decode cX12_cow 31 = .ok (.bipush 16, 2) := by decide +kernel
theorem dX12_cow_33 : decode cX12_cow 33 = .ok (.if_icmp .ne 5, 3) := by decide +kernel
theorem dX12_cow_36 : decode cX12_cow 36 = .ok (.iconst (-1), 1) := by decide +kernel
theorem dX12_cow_37 : decode cX12_cow 37 = .ok (.ireturn, 1) := by decide +kernel
theorem dX12_cow_38 : decode cX12_cow 38 = .ok (.aload_n 0, 1) := by decide +kernel
theorem dX12_cow_39 : decode cX12_cow 39 = .ok (.getfield 43, 3) := by decide +kernel
theorem dX12_cow_42 : decode cX12_cow 42 = .ok (.aload_n 0, 1) := by decide +kernel
theorem dX12_cow_43 : decode cX12_cow 43 = .ok (.getfield 199, 3) := by decide +kernel
theorem dX12_cow_46 : decode cX12_cow 46 = .ok (.bipush 10, 2) := by decide +kernel
theorem dX12_cow_48 : decode cX12_cow 48 = .ok (.iload_n 2, 1) := by decide +kernel
theorem dX12_cow_49 : decode cX12_cow 49 = .ok (.imul, 1) := by decide +kernel
theorem dX12_cow_50 : decode cX12_cow 50 = .ok (.iload_n 1, 1) := by decide +kernel
theorem dX12_cow_51 : decode cX12_cow 51 = .ok (.iadd, 1) := by decide +kernel
theorem dX12_cow_52 : decode cX12_cow 52 = .ok (.iastore, 1) := by decide +kernel
theorem dX12_cow_53 : decode cX12_cow 53 = .ok (.aload_n 0, 1) := by decide +kernel
theorem dX12_cow_54 : decode cX12_cow 54 = .ok (.getfield 46, 3) := by decide +kernel
theorem dX12_cow_57 : decode cX12_cow 57 = .ok (.aload_n 0, 1) := by decide +kernel
theorem dX12_cow_58 : decode cX12_cow 58 = .ok (.getfield 199, 3) := by decide +kernel
theorem dX12_cow_61 : decode cX12_cow 61 = .ok (.iload_n 3, 1) := by decide +kernel
theorem dX12_cow_62 : decode cX12_cow 62 = .ok (.ifCond .eq 8, 3) := by decide +kernel
theorem dX12_cow_65 : decode cX12_cow 65 = .ok (.bipush 9, 2) := by decide +kernel
theorem dX12_cow_67 : decode cX12_cow 67 = .ok (.goto 4, 3) := by decide +kernel
theorem dX12_cow_70 : decode cX12_cow 70 = .ok (.iconst 1, 1) := by decide +kernel
theorem dX12_cow_71 : decode cX12_cow 71 = .ok (.iastore, 1) := by decide +kernel
theorem dX12_cow_72 : decode cX12_cow 72 = .ok (.aload_n 0, 1) := by decide +kernel
theorem dX12_cow_73 : decode cX12_cow 73 = .ok (.getfield 49, 3) := by decide +kernel
theorem dX12_cow_76 : decode cX12_cow 76 = .ok (.aload_n 0, 1) := by decide +kernel
theorem dX12_cow_77 : decode cX12_cow 77 = .ok (.getfield 199, 3) := by decide +kernel
theorem dX12_cow_80 : decode cX12_cow 80 = .ok (.iload 4, 2) := by decide +kernel
theorem dX12_cow_82 : decode cX12_cow 82 = .ok (.iastore, 1) := by decide +kernel
theorem dX12_cow_83 : decode cX12_cow 83 = .ok (.aload_n 0, 1) := by decide +kernel
theorem dX12_cow_84 : decode cX12_cow 84 = .ok (.getfield 52, 3) := by decide +kernel
theorem dX12_cow_87 : decode cX12_cow 87 = .ok (.aload_n 0, 1) := by decide +kernel
theorem dX12_cow_88 : decode cX12_cow 88 = .ok (.getfield 199, 3) := by decide +kernel
theorem dX12_cow_91 : decode cX12_cow 91 = .ok (.bipush (-2), 2) := by decide +kernel
theorem dX12_cow_93 : decode cX12_cow 93 = .ok (.iastore, 1) := by decide +kernel
theorem dX12_cow_94 : decode cX12_cow 94 = .ok (.iconst 0, 1) := by decide +kernel
theorem dX12_cow_95 : decode cX12_cow 95 = .ok (.istore 5, 2) := by decide +kernel
theorem dX12_cow_97 : decode cX12_cow 97 = .ok (.iload 5, 2) := by decide +kernel
theorem dX12_cow_99 : decode cX12_cow 99 = .ok (.iconst 5, 1) := by decide +kernel
theorem dX12_cow_100 : decode cX12_cow 100 = .ok (.if_icmp .ge 24, 3) := by decide +kernel
theorem dX12_cow_103 : decode cX12_cow 103 = .ok (.aload_n 0, 1) := by decide +kernel
theorem dX12_cow_104 : decode cX12_cow 104 = .ok (.getfield 55, 3) := by decide +kernel
theorem dX12_cow_107 : decode cX12_cow 107 = .ok (.iconst 5, 1) := by decide +kernel
theorem dX12_cow_108 : decode cX12_cow 108 = .ok (.aload_n 0, 1) := by decide +kernel
theorem dX12_cow_109 : decode cX12_cow 109 = .ok (.getfield 199, 3) := by decide +kernel
theorem dX12_cow_112 : decode cX12_cow 112 = .ok (.imul, 1) := by decide +kernel
theorem dX12_cow_113 : decode cX12_cow 113 = .ok (.iload 5, 2) := by decide +kernel
theorem dX12_cow_115 : decode cX12_cow 115 = .ok (.iadd, 1) := by decide +kernel
theorem dX12_cow_116 : decode cX12_cow 116 = .ok (.iconst 0, 1) := by decide +kernel
theorem dX12_cow_117 : decode cX12_cow 117 = .ok (.iastore, 1) := by decide +kernel
theorem dX12_cow_118 : decode cX12_cow 118 = .ok (.iinc 5 1, 3) := by decide +kernel
theorem dX12_cow_121 : decode cX12_cow 121 = .ok (.goto (-24), 3) := by decide +kernel
theorem dX12_cow_124 : decode cX12_cow 124 = .ok (.iconst 0, 1) := by decide +kernel
theorem dX12_cow_125 : decode cX12_cow 125 = .ok (.istore 5, 2) := by decide +kernel
theorem dX12_cow_127 : decode cX12_cow 127 = .ok (.iload 5, 2) := by decide +kernel
theorem dX12_cow_129 : decode cX12_cow 129 = .ok (.bipush 12, 2) := by decide +kernel
theorem dX12_cow_131 : decode cX12_cow 131 = .ok (.if_icmp .ge 25, 3) := by decide +kernel
theorem dX12_cow_134 : decode cX12_cow 134 = .ok (.aload_n 0, 1) := by decide +kernel
theorem dX12_cow_135 : decode cX12_cow 135 = .ok (.getfield 61, 3) := by decide +kernel
theorem dX12_cow_138 : decode cX12_cow 138 = .ok (.bipush 16, 2) := by decide +kernel
theorem dX12_cow_140 : decode cX12_cow 140 = .ok (.iload 5, 2) := by decide +kernel
theorem dX12_cow_142 : decode cX12_cow 142 = .ok (.imul, 1) := by decide +kernel
theorem dX12_cow_143 : decode cX12_cow 143 = .ok (.aload_n 0, 1) := by decide +kernel
theorem dX12_cow_144 : decode cX12_cow 144 = .ok (.getfield 199, 3) := by decide +kernel
theorem dX12_cow_147 : decode cX12_cow 147 = .ok (.iadd, 1) := by decide +kernel
theorem dX12_cow_148 : decode cX12_cow 148 = .ok (.iconst 0, 1) := by decide +kernel
theorem dX12_cow_149 : decode cX12_cow 149 = .ok (.iastore, 1) := by decide +kernel
theorem dX12_cow_150 : decode cX12_cow 150 = .ok (.iinc 5 1, 3) := by decide +kernel
theorem dX12_cow_153 : decode cX12_cow 153 = .ok (.goto (-26), 3) := by decide +kernel
theorem dX12_cow_156 : decode cX12_cow 156 = .ok (.aload_n 0, 1) := by decide +kernel
theorem dX12_cow_157 : decode cX12_cow 157 = .ok (.dup, 1) := by decide +kernel
theorem dX12_cow_158 : decode cX12_cow 158 = .ok (.getfield 199, 3) := by decide +kernel
theorem dX12_cow_161 : decode cX12_cow 161 = .ok (.iconst 1, 1) := by decide +kernel
theorem dX12_cow_162 : decode cX12_cow 162 = .ok (.iadd, 1) := by decide +kernel
theorem dX12_cow_163 : decode cX12_cow 163 = .ok (.putfield 199, 3) := by decide +kernel
theorem dX12_cow_166 : decode cX12_cow 166 = .ok (.aload_n 0, 1) := by decide +kernel
theorem dX12_cow_167 : decode cX12_cow 167 = .ok (.getfield 199, 3) := by decide +kernel
theorem dX12_cow_170 : decode cX12_cow 170 = .ok (.iconst 1, 1) := by decide +kernel
theorem dX12_cow_171 : decode cX12_cow 171 = .ok (.isub, 1) := by decide +kernel
theorem dX12_cow_172 : decode cX12_cow 172 = .ok (.ireturn, 1) := by decide +kernel
theorem dX12_taste_0 : decode cX12_taste 0 = .ok (.aload_n 0, 1) := by decide +kernel
theorem dX12_taste_1 : decode cX12_taste 1 = .ok (.iload_n 1, 1) := by decide +kernel
theorem dX12_taste_2 : decode cX12_taste 2 = .ok (.invokevirtual 217, 3) := by decide +kernel
theorem dX12_taste_5 : decode cX12_taste 5 = .ok (.ifCond .eq 24, 3) := by decide +kernel
theorem dX12_taste_8 : decode cX12_taste 8 = .ok (.iload_n 2, 1) := by decide +kernel
theorem dX12_taste_9 : decode cX12_taste 9 = .ok (.invokestatic 209, 3) := by decide +kernel
theorem dX12_taste_12 : decode cX12_taste 12 = .ok (.ifCond .eq 17, 3) := by decide +kernel
theorem dX12_taste_15 : decode cX12_taste 15 = .ok (.iload_n 3, 1) := by decide +kernel
theorem dX12_taste_16 : decode cX12_taste 16 = .ok (.i2l, 1) := by decide +kernel
theorem dX12_taste_17 : decode cX12_taste 17 = .ok (.ldc2_w 220, 3) := by decide +kernel
theorem dX12_taste_20 : decode cX12_taste 20 = .ok (.ldc2_w 186, 3) := by decide +kernel
theorem dX12_taste_23 : decode cX12_taste 23 = .ok (.invokestatic 188, 3) := by decide +kernel
theorem dX12_taste_26 : decode cX12_taste 26 = .ok (.ifCond .ne 5, 3) := by decide +kernel
theorem dX12_taste_29 : decode cX12_taste 29 = .ok (.iconst 0, 1) := by decide +kernel
theorem dX12_taste_30 : decode cX12_taste 30 = .ok (.ireturn, 1) := by decide +kernel
theorem dX12_taste_31 : decode cX12_taste 31 = .ok (.aload_n 0, 1) := by decide +kernel
theorem dX12_taste_32 : decode cX12_taste 32 = .ok (.getfield 55, 3) := by decide +kernel
theorem dX12_taste_35 : decode cX12_taste 35 = .ok (.iconst 5, 1) := by decide +kernel
theorem dX12_taste_36 : decode cX12_taste 36 = .ok (.iload_n 1, 1) := by decide +kernel
theorem dX12_taste_37 : decode cX12_taste 37 = .ok (.imul, 1) := by decide +kernel
theorem dX12_taste_38 : decode cX12_taste 38 = .ok (.iload_n 2, 1) := by decide +kernel
theorem dX12_taste_39 : decode cX12_taste 39 = .ok (.iadd, 1) := by decide +kernel
theorem dX12_taste_40 : decode cX12_taste 40 = .ok (.iload_n 3, 1) := by decide +kernel
theorem dX12_taste_41 : decode cX12_taste 41 = .ok (.iastore, 1) := by decide +kernel
theorem dX12_taste_42 : decode cX12_taste 42 = .ok (.iconst 1, 1) := by decide +kernel
theorem dX12_taste_43 : decode cX12_taste 43 = .ok (.ireturn, 1) := by decide +kernel
theorem dX12_salt_0 : decode cX12_salt 0 = .ok (.iload_n 1, 1) := by decide +kernel
theorem dX12_salt_1 : decode cX12_salt 1 = .ok (.iconst (-1), 1) := by decide +kernel
theorem dX12_salt_2 : decode cX12_salt 2 = .ok (.if_icmp .ne 10, 3) := by decide +kernel
theorem dX12_salt_5 : decode cX12_salt 5 = .ok (.aload_n 0, 1) := by decide +kernel
theorem dX12_salt_6 : decode cX12_salt 6 = .ok (.iconst (-1), 1) := by decide +kernel
theorem dX12_salt_7 : decode cX12_salt 7 = .ok (.putfield 17, 3) := by decide +kernel
theorem dX12_salt_10 : decode cX12_salt 10 = .ok (.iconst 1, 1) := by decide +kernel
theorem dX12_salt_11 : decode cX12_salt 11 = .ok (.ireturn, 1) := by decide +kernel
theorem dX12_salt_12 : decode cX12_salt 12 = .ok (.aload_n 0, 1) := by decide +kernel
theorem dX12_salt_13 : decode cX12_salt 13 = .ok (.iload_n 1, 1) := by decide +kernel
theorem dX12_salt_14 : decode cX12_salt 14 = .ok (.invokevirtual 222, 3) := by decide +kernel
theorem dX12_salt_17 : decode cX12_salt 17 = .ok (.ifCond .eq 15, 3) := by decide +kernel
theorem dX12_salt_20 : decode cX12_salt 20 = .ok (.iload_n 2, 1) := by decide +kernel
theorem dX12_salt_21 : decode cX12_salt 21 = .ok (.i2l, 1) := by decide +kernel
theorem dX12_salt_22 : decode cX12_salt 22 = .ok (.lconst 0, 1) := by decide +kernel
theorem dX12_salt_23 : decode cX12_salt 23 = .ok (.ldc2_w 212, 3) := by decide +kernel
theorem dX12_salt_26 : decode cX12_salt 26 = .ok (.invokestatic 188, 3) := by decide +kernel
theorem dX12_salt_29 : decode cX12_salt 29 = .ok (.ifCond .ne 5, 3) := by decide +kernel
theorem dX12_salt_32 : decode cX12_salt 32 = .ok (.iconst 0, 1) := by decide +kernel
theorem dX12_salt_33 : decode cX12_salt 33 = .ok (.ireturn, 1) := by decide +kernel
theorem dX12_salt_34 : decode cX12_salt 34 = .ok (.aload_n 0, 1) := by decide +kernel
theorem dX12_salt_35 : decode cX12_salt 35 = .ok (.iload_n 1, 1) := by decide +kernel
theorem dX12_salt_36 : decode cX12_salt 36 = .ok (.putfield 17, 3) := by decide +kernel
theorem dX12_salt_39 : decode cX12_salt 39 = .ok (.aload_n 0, 1) := by decide +kernel
theorem dX12_salt_40 : decode cX12_salt 40 = .ok (.iload_n 2, 1) := by decide +kernel
theorem dX12_salt_41 : decode cX12_salt 41 = .ok (.putfield 225, 3) := by decide +kernel
theorem dX12_salt_44 : decode cX12_salt 44 = .ok (.iconst 1, 1) := by decide +kernel
theorem dX12_salt_45 : decode cX12_salt 45 = .ok (.ireturn, 1) := by decide +kernel
theorem dX12_push_0 : decode cX12_push 0 = .ok (.bipush 24, 2) := by decide +kernel
theorem dX12_push_2 : decode cX12_push 2 = .ok (.istore_n 2, 1) := by decide +kernel
theorem dX12_push_3 : decode cX12_push 3 = .ok (.iload_n 2, 1) := by decide +kernel
theorem dX12_push_4 : decode cX12_push 4 = .ok (.ifCond .lt 32, 3) := by decide +kernel
theorem dX12_push_7 : decode cX12_push 7 = .ok (.aload_n 0, 1) := by decide +kernel
theorem dX12_push_8 : decode cX12_push 8 = .ok (.getfield 7, 3) := by decide +kernel
theorem dX12_push_11 : decode cX12_push 11 = .ok (.aload_n 0, 1) := by decide +kernel
theorem dX12_push_12 : decode cX12_push 12 = .ok (.getfield 228, 3) := by decide +kernel
theorem dX12_push_15 : decode cX12_push 15 = .ok (.iload_n 1, 1) := by decide +kernel
theorem dX12_push_16 : decode cX12_push 16 = .ok (.iload_n 2, 1) := by decide +kernel
theorem dX12_push_17 : decode cX12_push 17 = .ok (.ishr, 1) := by decide +kernel
theorem dX12_push_18 : decode cX12_push 18 = .ok (.i2b, 1) := by decide +kernel
theorem dX12_push_19 : decode cX12_push 19 = .ok (.bastore, 1) := by decide +kernel
theorem dX12_push_20 : decode cX12_push 20 = .ok (.aload_n 0, 1) := by decide +kernel
theorem dX12_push_21 : decode cX12_push 21 = .ok (.dup, 1) := by decide +kernel
theorem dX12_push_22 : decode cX12_push 22 = .ok (.getfield 228, 3) := by decide +kernel
theorem dX12_push_25 : decode cX12_push 25 = .ok (.iconst 1, 1) := by decide +kernel
theorem dX12_push_26 : decode cX12_push 26 = .ok (.iadd, 1) := by decide +kernel
theorem dX12_push_27 : decode cX12_push 27 = .ok (.putfield 228, 3) := by decide +kernel
theorem dX12_push_30 : decode cX12_push 30 = .ok (.iinc 2 (-8), 3) := by decide +kernel
theorem dX12_push_33 : decode cX12_push 33 = .ok (.goto (-30), 3) := by decide +kernel
theorem dX12_push_36 : decode cX12_push 36 = .ok (.return_, 1) := by decide +kernel
theorem dX12_feed_0 : decode cX12_feed 0 = .ok (.aload_n 0, 1) := by decide +kernel
theorem dX12_feed_1 : decode cX12_feed 1 = .ok (.getfield 228, 3) := by decide +kernel
theorem dX12_feed_4 : decode cX12_feed 4 = .ok (.bipush 20, 2) := by decide +kernel
theorem dX12_feed_6 : decode cX12_feed 6 = .ok (.iadd, 1) := by decide +kernel
theorem dX12_feed_7 : decode cX12_feed 7 = .ok (.sipush 220, 3) := by decide +kernel
theorem dX12_feed_10 : decode cX12_feed 10 = .ok (.if_icmp .le 5, 3) := by decide +kernel
theorem dX12_feed_13 : decode cX12_feed 13 = .ok (.iconst (-1), 1) := by decide +kernel
theorem dX12_feed_14 : decode cX12_feed 14 = .ok (.ireturn, 1) := by decide +kernel
theorem dX12_feed_15 : decode cX12_feed 15 = .ok (.aload_n 0, 1) := by decide +kernel
theorem dX12_feed_16 : decode cX12_feed 16 = .ok (.iload_n 1, 1) := by decide +kernel
theorem dX12_feed_17 : decode cX12_feed 17 = .ok (.invokevirtual 231, 3) := by decide +kernel
theorem dX12_feed_20 : decode cX12_feed 20 = .ok (.aload_n 0, 1) := by decide +kernel
theorem dX12_feed_21 : decode cX12_feed 21 = .ok (.iload_n 2, 1) := by decide +kernel
theorem dX12_feed_22 : decode cX12_feed 22 = .ok (.invokevirtual 231, 3) := by decide +kernel
theorem dX12_feed_25 : decode cX12_feed 25 = .ok (.aload_n 0, 1) := by decide +kernel
theorem dX12_feed_26 : decode cX12_feed 26 = .ok (.iload_n 3, 1) := by decide +kernel
theorem dX12_feed_27 : decode cX12_feed 27 = .ok (.invokevirtual 231, 3) := by decide +kernel
theorem dX12_feed_30 : decode cX12_feed 30 = .ok (.aload_n 0, 1) := by decide +kernel
theorem dX12_feed_31 : decode cX12_feed 31 = .ok (.iload 4, 2) := by decide +kernel
theorem dX12_feed_33 : decode cX12_feed 33 = .ok (.invokevirtual 231, 3) := by decide +kernel
theorem dX12_feed_36 : decode cX12_feed 36 = .ok (.aload_n 0, 1) := by decide +kernel
theorem dX12_feed_37 : decode cX12_feed 37 = .ok (.iload 5, 2) := by decide +kernel
theorem dX12_feed_39 : decode cX12_feed 39 = .ok (.invokevirtual 231, 3) := by decide +kernel
theorem dX12_feed_42 : decode cX12_feed 42 = .ok (.aload_n 0, 1) := by decide +kernel
theorem dX12_feed_43 : decode cX12_feed 43 = .ok (.getfield 228, 3) := by decide +kernel
theorem dX12_feed_46 : decode cX12_feed 46 = .ok (.ireturn, 1) := by decide +kernel
theorem dX12_byteAt_0 : decode cX12_byteAt 0 = .ok (.aload_n 0, 1) := by decide +kernel
theorem dX12_byteAt_1 : decode cX12_byteAt 1 = .ok (.getfield 7, 3) := by decide +kernel
theorem dX12_byteAt_4 : decode cX12_byteAt 4 = .ok (.iload_n 1, 1) := by decide +kernel
theorem dX12_byteAt_5 : decode cX12_byteAt 5 = .ok (.baload, 1) := by decide +kernel
theorem dX12_byteAt_6 : decode cX12_byteAt 6 = .ok (.sipush 255, 3) := by decide +kernel
theorem dX12_byteAt_9 : decode cX12_byteAt 9 = .ok (.iand, 1) := by decide +kernel
theorem dX12_byteAt_10 : decode cX12_byteAt 10 = .ok (.ireturn, 1) := by decide +kernel
theorem dX12_here_0 : decode cX12_here 0 = .ok (.aload_n 0, 1) := by decide +kernel
theorem dX12_here_1 : decode cX12_here 1 = .ok (.getfield 235, 3) := by decide +kernel
theorem dX12_here_4 : decode cX12_here 4 = .ok (.aload_n 0, 1) := by decide +kernel
theorem dX12_here_5 : decode cX12_here 5 = .ok (.getfield 238, 3) := by decide +kernel
theorem dX12_here_8 : decode cX12_here 8 = .ok (.if_icmp .ge 19, 3) := by decide +kernel
theorem dX12_here_11 : decode cX12_here 11 = .ok (.aload_n 0, 1) := by decide +kernel
theorem dX12_here_12 : decode cX12_here 12 = .ok (.getfield 7, 3) := by decide +kernel
theorem dX12_here_15 : decode cX12_here 15 = .ok (.aload_n 0, 1) := by decide +kernel
theorem dX12_here_16 : decode cX12_here 16 = .ok (.getfield 235, 3) := by decide +kernel
theorem dX12_here_19 : decode cX12_here 19 = .ok (.baload, 1) := by decide +kernel
theorem dX12_here_20 : decode cX12_here 20 = .ok (.sipush 255, 3) := by decide +kernel
theorem dX12_here_23 : decode cX12_here 23 = .ok (.iand, 1) := by decide +kernel
theorem dX12_here_24 : decode cX12_here 24 = .ok (.goto 4, 3) := by decide +kernel
theorem dX12_here_27 : decode cX12_here 27 = .ok (.iconst 0, 1) := by decide +kernel
theorem dX12_here_28 : decode cX12_here 28 = .ok (.ireturn, 1) := by decide +kernel
theorem dX12_wrongs_0 : decode cX12_wrongs 0 = .ok (.aload_n 0, 1) := by decide +kernel
theorem dX12_wrongs_1 : decode cX12_wrongs 1 = .ok (.aload_n 0, 1) := by decide +kernel
theorem dX12_wrongs_2 : decode cX12_wrongs 2 = .ok (.getfield 241, 3) := by decide +kernel
theorem dX12_wrongs_5 : decode cX12_wrongs 5 = .ok (.ifCond .ge 10, 3) := by decide +kernel
theorem dX12_wrongs_8 : decode cX12_wrongs 8 = .ok (.aload_n 0, 1) := by decide +kernel
theorem dX12_wrongs_9 : decode cX12_wrongs 9 = .ok (.getfield 241, 3) := by decide +kernel
theorem dX12_wrongs_12 : decode cX12_wrongs 12 = .ok (.goto 10, 3) := by decide +kernel
theorem dX12_wrongs_15 : decode cX12_wrongs 15 = .ok (.sipush (-1000), 3) := by decide +kernel
theorem dX12_wrongs_18 : decode cX12_wrongs 18 = .ok (.iload_n 1, 1) := by decide +kernel
theorem dX12_wrongs_19 : decode cX12_wrongs 19 = .ok (.imul, 1) := by decide +kernel
theorem dX12_wrongs_20 : decode cX12_wrongs 20 = .ok (.iload_n 2, 1) := by decide +kernel
theorem dX12_wrongs_21 : decode cX12_wrongs 21 = .ok (.isub, 1) := by decide +kernel
theorem dX12_wrongs_22 : decode cX12_wrongs 22 = .ok (.putfield 241, 3) := by decide +kernel
theorem dX12_wrongs_25 : decode cX12_wrongs 25 = .ok (.return_, 1) := by decide +kernel
theorem dX12_isGood_0 : decode cX12_isGood 0 = .ok (.aload_n 0, 1) := by decide +kernel
theorem dX12_isGood_1 : decode cX12_isGood 1 = .ok (.getfield 241, 3) := by decide +kernel
theorem dX12_isGood_4 : decode cX12_isGood 4 = .ok (.ifCond .ne 7, 3) := by decide +kernel
theorem dX12_isGood_7 : decode cX12_isGood 7 = .ok (.iconst 1, 1) := by decide +kernel
theorem dX12_isGood_8 : decode cX12_isGood 8 = .ok (.goto 4, 3) := by decide +kernel
theorem dX12_isGood_11 : decode cX12_isGood 11 = .ok (.iconst 0, 1) := by decide +kernel
theorem dX12_isGood_12 : decode cX12_isGood 12 = .ok (.ireturn, 1) := by decide +kernel
theorem dX12_emit_0 : decode cX12_emit 0 = .ok (.aload_n 0, 1) := by decide +kernel
theorem dX12_emit_1 : decode cX12_emit 1 = .ok (.invokevirtual 244, 3) := by decide +kernel
theorem dX12_emit_4 : decode cX12_emit 4 = .ok (.ifCond .ne 4, 3) := by decide +kernel
theorem dX12_emit_7 : decode cX12_emit 7 = .ok (.return_, 1) := by decide +kernel
theorem dX12_emit_8 : decode cX12_emit 8 = .ok (.aload_n 0, 1) := by decide +kernel
theorem dX12_emit_9 : decode cX12_emit 9 = .ok (.getfield 94, 3) := by decide +kernel
theorem dX12_emit_12 : decode cX12_emit 12 = .ok (.aload_n 0, 1) := by decide +kernel
theorem dX12_emit_13 : decode cX12_emit 13 = .ok (.getfield 248, 3) := by decide +kernel
theorem dX12_emit_16 : decode cX12_emit 16 = .ok (.iload_n 1, 1) := by decide +kernel
theorem dX12_emit_17 : decode cX12_emit 17 = .ok (.iastore, 1) := by decide +kernel
theorem dX12_emit_18 : decode cX12_emit 18 = .ok (.aload_n 0, 1) := by decide +kernel
theorem dX12_emit_19 : decode cX12_emit 19 = .ok (.getfield 97, 3) := by decide +kernel
theorem dX12_emit_22 : decode cX12_emit 22 = .ok (.aload_n 0, 1) := by decide +kernel
theorem dX12_emit_23 : decode cX12_emit 23 = .ok (.getfield 248, 3) := by decide +kernel
theorem dX12_emit_26 : decode cX12_emit 26 = .ok (.iload_n 2, 1) := by decide +kernel
theorem dX12_emit_27 : decode cX12_emit 27 = .ok (.iastore, 1) := by decide +kernel
theorem dX12_emit_28 : decode cX12_emit 28 = .ok (.aload_n 0, 1) := by decide +kernel
theorem dX12_emit_29 : decode cX12_emit 29 = .ok (.dup, 1) := by decide +kernel
theorem dX12_emit_30 : decode cX12_emit 30 = .ok (.getfield 248, 3) := by decide +kernel
theorem dX12_emit_33 : decode cX12_emit 33 = .ok (.iconst 1, 1) := by decide +kernel
theorem dX12_emit_34 : decode cX12_emit 34 = .ok (.iadd, 1) := by decide +kernel
theorem dX12_emit_35 : decode cX12_emit 35 = .ok (.putfield 248, 3) := by decide +kernel
theorem dX12_emit_38 : decode cX12_emit 38 = .ok (.return_, 1) := by decide +kernel
theorem dX12_top_0 : decode cX12_top 0 = .ok (.aload_n 0, 1) := by decide +kernel
theorem dX12_top_1 : decode cX12_top 1 = .ok (.getfield 251, 3) := by decide +kernel
theorem dX12_top_4 : decode cX12_top 4 = .ok (.ifCond .le 17, 3) := by decide +kernel
theorem dX12_top_7 : decode cX12_top 7 = .ok (.aload_n 0, 1) := by decide +kernel
theorem dX12_top_8 : decode cX12_top 8 = .ok (.getfield 100, 3) := by decide +kernel
theorem dX12_top_11 : decode cX12_top 11 = .ok (.aload_n 0, 1) := by decide +kernel
theorem dX12_top_12 : decode cX12_top 12 = .ok (.getfield 251, 3) := by decide +kernel
theorem dX12_top_15 : decode cX12_top 15 = .ok (.iconst 1, 1) := by decide +kernel
theorem dX12_top_16 : decode cX12_top 16 = .ok (.isub, 1) := by decide +kernel
theorem dX12_top_17 : decode cX12_top 17 = .ok (.iaload, 1) := by decide +kernel
theorem dX12_top_18 : decode cX12_top 18 = .ok (.goto 4, 3) := by decide +kernel
theorem dX12_top_21 : decode cX12_top 21 = .ok (.iconst 0, 1) := by decide +kernel
theorem dX12_top_22 : decode cX12_top 22 = .ok (.ireturn, 1) := by decide +kernel
theorem dX12_puts_0 : decode cX12_puts 0 = .ok (.aload_n 0, 1) := by decide +kernel
theorem dX12_puts_1 : decode cX12_puts 1 = .ok (.getfield 100, 3) := by decide +kernel
theorem dX12_puts_4 : decode cX12_puts 4 = .ok (.aload_n 0, 1) := by decide +kernel
theorem dX12_puts_5 : decode cX12_puts 5 = .ok (.getfield 251, 3) := by decide +kernel
theorem dX12_puts_8 : decode cX12_puts 8 = .ok (.iload_n 1, 1) := by decide +kernel
theorem dX12_puts_9 : decode cX12_puts 9 = .ok (.iastore, 1) := by decide +kernel
theorem dX12_puts_10 : decode cX12_puts 10 = .ok (.aload_n 0, 1) := by decide +kernel
theorem dX12_puts_11 : decode cX12_puts 11 = .ok (.dup, 1) := by decide +kernel
theorem dX12_puts_12 : decode cX12_puts 12 = .ok (.getfield 251, 3) := by decide +kernel
theorem dX12_puts_15 : decode cX12_puts 15 = .ok (.iconst 1, 1) := by decide +kernel
theorem dX12_puts_16 : decode cX12_puts 16 = .ok (.iadd, 1) := by decide +kernel
theorem dX12_puts_17 : decode cX12_puts 17 = .ok (.putfield 251, 3) := by decide +kernel
theorem dX12_puts_20 : decode cX12_puts 20 = .ok (.aload_n 0, 1) := by decide +kernel
theorem dX12_puts_21 : decode cX12_puts 21 = .ok (.dup, 1) := by decide +kernel
theorem dX12_puts_22 : decode cX12_puts 22 = .ok (.getfield 235, 3) := by decide +kernel
theorem dX12_puts_25 : decode cX12_puts 25 = .ok (.iconst 1, 1) := by decide +kernel
theorem dX12_puts_26 : decode cX12_puts 26 = .ok (.iadd, 1) := by decide +kernel
theorem dX12_puts_27 : decode cX12_puts 27 = .ok (.putfield 235, 3) := by decide +kernel
theorem dX12_puts_30 : decode cX12_puts 30 = .ok (.return_, 1) := by decide +kernel
theorem dX12_opens_0 : decode cX12_opens 0 = .ok (.aload_n 0, 1) := by decide +kernel
theorem dX12_opens_1 : decode cX12_opens 1 = .ok (.getfield 254, 3) := by decide +kernel
theorem dX12_opens_4 : decode cX12_opens 4 = .ok (.bipush 6, 2) := by decide +kernel
theorem dX12_opens_6 : decode cX12_opens 6 = .ok (.if_icmp .ne 12, 3) := by decide +kernel
theorem dX12_opens_9 : decode cX12_opens 9 = .ok (.aload_n 0, 1) := by decide +kernel
theorem dX12_opens_10 : decode cX12_opens 10 = .ok (.iconst 5, 1) := by decide +kernel
theorem dX12_opens_11 : decode cX12_opens 11 = .ok (.aload_n 0, 1) := by decide +kernel
theorem dX12_opens_12 : decode cX12_opens 12 = .ok (.getfield 235, 3) := by decide +kernel
theorem dX12_opens_15 : decode cX12_opens 15 = .ok (.invokevirtual 257, 3) := by decide +kernel
theorem dX12_opens_18 : decode cX12_opens 18 = .ok (.aload_n 0, 1) := by decide +kernel
theorem dX12_opens_19 : decode cX12_opens 19 = .ok (.dup, 1) := by decide +kernel
theorem dX12_opens_20 : decode cX12_opens 20 = .ok (.getfield 254, 3) := by decide +kernel
theorem dX12_opens_23 : decode cX12_opens 23 = .ok (.iconst 1, 1) := by decide +kernel
theorem dX12_opens_24 : decode cX12_opens 24 = .ok (.iadd, 1) := by decide +kernel
theorem dX12_opens_25 : decode cX12_opens 25 = .ok (.putfield 254, 3) := by decide +kernel
theorem dX12_opens_28 : decode cX12_opens 28 = .ok (.aload_n 0, 1) := by decide +kernel
theorem dX12_opens_29 : decode cX12_opens 29 = .ok (.aload_n 0, 1) := by decide +kernel
theorem dX12_opens_30 : decode cX12_opens 30 = .ok (.invokevirtual 261, 3) := by decide +kernel
theorem dX12_opens_33 : decode cX12_opens 33 = .ok (.invokevirtual 265, 3) := by decide +kernel
theorem dX12_opens_36 : decode cX12_opens 36 = .ok (.return_, 1) := by decide +kernel
theorem dX12_seesDigit_0 : decode cX12_seesDigit 0 = .ok (.aload_n 0, 1) := by decide +kernel
theorem dX12_seesDigit_1 : decode cX12_seesDigit 1 = .ok (.invokevirtual 261, 3) := by decide +kernel
theorem dX12_seesDigit_4 : decode cX12_seesDigit 4 = .ok (.i2l, 1) := by decide +kernel
theorem dX12_seesDigit_5 : decode cX12_seesDigit 5 = .ok (.ldc2_w 268, 3) := by decide +kernel
theorem dX12_seesDigit_8 : decode cX12_seesDigit 8 = .ok (.ldc2_w 270, 3) := by decide +kernel
theorem dX12_seesDigit_11 : decode cX12_seesDigit 11 = .ok (.invokestatic 188, 3) := by decide +kernel
theorem dX12_seesDigit_14 : decode cX12_seesDigit 14 = .ok (.ireturn, 1) := by decide +kernel
theorem dX12_reads_0 : decode cX12_reads 0 = .ok (.aload_n 0, 1) := by decide +kernel
theorem dX12_reads_1 : decode cX12_reads 1 = .ok (.getfield 235, 3) := by decide +kernel
theorem dX12_reads_4 : decode cX12_reads 4 = .ok (.istore_n 1, 1) := by decide +kernel
theorem dX12_reads_5 : decode cX12_reads 5 = .ok (.iconst 0, 1) := by decide +kernel
theorem dX12_reads_6 : decode cX12_reads 6 = .ok (.istore_n 2, 1) := by decide +kernel
theorem dX12_reads_7 : decode cX12_reads 7 = .ok (.aload_n 0, 1) := by decide +kernel
theorem dX12_reads_8 : decode cX12_reads 8 = .ok (.invokevirtual 244, 3) := by decide +kernel
theorem dX12_reads_11 : decode cX12_reads 11 = .ok (.ifCond .eq 55, 3) := by decide +kernel
theorem dX12_reads_14 : decode cX12_reads 14 = .ok (.aload_n 0, 1) := by decide +kernel
theorem dX12_reads_15 : decode cX12_reads 15 = .ok (.invokevirtual 272, 3) := by decide +kernel
theorem dX12_reads_18 : decode cX12_reads 18 = .ok (.ifCond .eq 48, 3) := by decide +kernel
theorem dX12_reads_21 : decode cX12_reads 21 = .ok (.aload_n 0, 1) := by decide +kernel
theorem dX12_reads_22 : decode cX12_reads 22 = .ok (.getfield 235, 3) := by decide +kernel
theorem dX12_reads_25 : decode cX12_reads 25 = .ok (.iload_n 1, 1) := by decide +kernel
theorem dX12_reads_26 : decode cX12_reads 26 = .ok (.iconst 5, 1) := by decide +kernel
theorem dX12_reads_27 : decode cX12_reads 27 = .ok (.iadd, 1) := by decide +kernel
theorem dX12_reads_28 : decode cX12_reads 28 = .ok (.if_icmp .ne 12, 3) := by decide +kernel
theorem dX12_reads_31 : decode cX12_reads 31 = .ok (.aload_n 0, 1) := by decide +kernel
theorem dX12_reads_32 : decode cX12_reads 32 = .ok (.iconst 2, 1) := by decide +kernel
theorem dX12_reads_33 : decode cX12_reads 33 = .ok (.aload_n 0, 1) := by decide +kernel
theorem dX12_reads_34 : decode cX12_reads 34 = .ok (.getfield 235, 3) := by decide +kernel
theorem dX12_reads_37 : decode cX12_reads 37 = .ok (.invokevirtual 257, 3) := by decide +kernel
theorem dX12_reads_40 : decode cX12_reads 40 = .ok (.bipush 10, 2) := by decide +kernel
theorem dX12_reads_42 : decode cX12_reads 42 = .ok (.iload_n 2, 1) := by decide +kernel
theorem dX12_reads_43 : decode cX12_reads 43 = .ok (.imul, 1) := by decide +kernel
theorem dX12_reads_44 : decode cX12_reads 44 = .ok (.aload_n 0, 1) := by decide +kernel
theorem dX12_reads_45 : decode cX12_reads 45 = .ok (.invokevirtual 261, 3) := by decide +kernel
theorem dX12_reads_48 : decode cX12_reads 48 = .ok (.iadd, 1) := by decide +kernel
theorem dX12_reads_49 : decode cX12_reads 49 = .ok (.bipush 48, 2) := by decide +kernel
theorem dX12_reads_51 : decode cX12_reads 51 = .ok (.isub, 1) := by decide +kernel
theorem dX12_reads_52 : decode cX12_reads 52 = .ok (.istore_n 2, 1) := by decide +kernel
theorem dX12_reads_53 : decode cX12_reads 53 = .ok (.aload_n 0, 1) := by decide +kernel
theorem dX12_reads_54 : decode cX12_reads 54 = .ok (.dup, 1) := by decide +kernel
theorem dX12_reads_55 : decode cX12_reads 55 = .ok (.getfield 235, 3) := by decide +kernel
theorem dX12_reads_58 : decode cX12_reads 58 = .ok (.iconst 1, 1) := by decide +kernel
theorem dX12_reads_59 : decode cX12_reads 59 = .ok (.iadd, 1) := by decide +kernel
theorem dX12_reads_60 : decode cX12_reads 60 = .ok (.putfield 235, 3) := by decide +kernel
theorem dX12_reads_63 : decode cX12_reads 63 = .ok (.goto (-56), 3) := by decide +kernel
theorem dX12_reads_66 : decode cX12_reads 66 = .ok (.iload_n 2, 1) := by decide +kernel
theorem dX12_reads_67 : decode cX12_reads 67 = .ok (.ireturn, 1) := by decide +kernel
theorem dX12_isTimes_0 : decode cX12_isTimes 0 = .ok (.iload_n 0, 1) := by decide +kernel
theorem dX12_isTimes_1 : decode cX12_isTimes 1 = .ok (.bipush 42, 2) := by decide +kernel
theorem dX12_isTimes_3 : decode cX12_isTimes 3 = .ok (.if_icmp .eq 15, 3) := by decide +kernel
theorem dX12_isTimes_6 : decode cX12_isTimes 6 = .ok (.iload_n 0, 1) := by decide +kernel
theorem dX12_isTimes_7 : decode cX12_isTimes 7 = .ok (.bipush 47, 2) := by decide +kernel
theorem dX12_isTimes_9 : decode cX12_isTimes 9 = .ok (.if_icmp .eq 9, 3) := by decide +kernel
theorem dX12_isTimes_12 : decode cX12_isTimes 12 = .ok (.iload_n 0, 1) := by decide +kernel
theorem dX12_isTimes_13 : decode cX12_isTimes 13 = .ok (.bipush 37, 2) := by decide +kernel
theorem dX12_isTimes_15 : decode cX12_isTimes 15 = .ok (.if_icmp .ne 7, 3) := by decide +kernel
theorem dX12_isTimes_18 : decode cX12_isTimes 18 = .ok (.iconst 1, 1) := by decide +kernel
theorem dX12_isTimes_19 : decode cX12_isTimes 19 = .ok (.goto 4, 3) := by decide +kernel
theorem dX12_isTimes_22 : decode cX12_isTimes 22 = .ok (.iconst 0, 1) := by decide +kernel
theorem dX12_isTimes_23 : decode cX12_isTimes 23 = .ok (.ireturn, 1) := by decide +kernel
theorem dX12_isPlus_0 : decode cX12_isPlus 0 = .ok (.iload_n 0, 1) := by decide +kernel
theorem dX12_isPlus_1 : decode cX12_isPlus 1 = .ok (.bipush 43, 2) := by decide +kernel
theorem dX12_isPlus_3 : decode cX12_isPlus 3 = .ok (.if_icmp .eq 9, 3) := by decide +kernel
theorem dX12_isPlus_6 : decode cX12_isPlus 6 = .ok (.iload_n 0, 1) := by decide +kernel
theorem dX12_isPlus_7 : decode cX12_isPlus 7 = .ok (.bipush 45, 2) := by decide +kernel
theorem dX12_isPlus_9 : decode cX12_isPlus 9 = .ok (.if_icmp .ne 7, 3) := by decide +kernel
theorem dX12_isPlus_12 : decode cX12_isPlus 12 = .ok (.iconst 1, 1) := by decide +kernel
theorem dX12_isPlus_13 : decode cX12_isPlus 13 = .ok (.goto 4, 3) := by decide +kernel
theorem dX12_isPlus_16 : decode cX12_isPlus 16 = .ok (.iconst 0, 1) := by decide +kernel
theorem dX12_isPlus_17 : decode cX12_isPlus 17 = .ok (.ireturn, 1) := by decide +kernel
theorem dX12_isSign_0 : decode cX12_isSign 0 = .ok (.iload_n 0, 1) := by decide +kernel
theorem dX12_isSign_1 : decode cX12_isSign 1 = .ok (.bipush 60, 2) := by decide +kernel
theorem dX12_isSign_3 : decode cX12_isSign 3 = .ok (.if_icmp .eq 15, 3) := by decide +kernel
theorem dX12_isSign_6 : decode cX12_isSign 6 = .ok (.iload_n 0, 1) := by decide +kernel
theorem dX12_isSign_7 : decode cX12_isSign 7 = .ok (.bipush 62, 2) := by decide +kernel
theorem dX12_isSign_9 : decode cX12_isSign 9 = .ok (.if_icmp .eq 9, 3) := by decide +kernel
theorem dX12_isSign_12 : decode cX12_isSign 12 = .ok (.iload_n 0, 1) := by decide +kernel
theorem dX12_isSign_13 : decode cX12_isSign 13 = .ok (.bipush 61, 2) := by decide +kernel
theorem dX12_isSign_15 : decode cX12_isSign 15 = .ok (.if_icmp .ne 7, 3) := by decide +kernel
theorem dX12_isSign_18 : decode cX12_isSign 18 = .ok (.iconst 1, 1) := by decide +kernel
theorem dX12_isSign_19 : decode cX12_isSign 19 = .ok (.goto 4, 3) := by decide +kernel
theorem dX12_isSign_22 : decode cX12_isSign 22 = .ok (.iconst 0, 1) := by decide +kernel
theorem dX12_isSign_23 : decode cX12_isSign 23 = .ok (.ireturn, 1) := by decide +kernel
theorem dX12_isValue_0 : decode cX12_isValue 0 = .ok (.iload_n 0, 1) := by decide +kernel
theorem dX12_isValue_1 : decode cX12_isValue 1 = .ok (.bipush 104, 2) := by decide +kernel
theorem dX12_isValue_3 : decode cX12_isValue 3 = .ok (.if_icmp .eq 57, 3) := by decide +kernel
theorem dX12_isValue_6 : decode cX12_isValue 6 = .ok (.iload_n 0, 1) := by decide +kernel
theorem dX12_isValue_7 : decode cX12_isValue 7 = .ok (.bipush 118, 2) := by decide +kernel
theorem dX12_isValue_9 : decode cX12_isValue 9 = .ok (.if_icmp .eq 51, 3) := by decide +kernel
theorem dX12_isValue_12 : decode cX12_isValue 12 = .ok (.iload_n 0, 1) := by decide +kernel
theorem dX12_isValue_13 : decode cX12_isValue 13 = .ok (.bipush 119, 2) := by decide +kernel
theorem dX12_isValue_15 : decode cX12_isValue 15 = .ok (.if_icmp .eq 45, 3) := by decide +kernel
theorem dX12_isValue_18 : decode cX12_isValue 18 = .ok (.iload_n 0, 1) := by decide +kernel
theorem dX12_isValue_19 : decode cX12_isValue 19 = .ok (.bipush 120, 2) := by decide +kernel
theorem dX12_isValue_21 : decode cX12_isValue 21 = .ok (.if_icmp .eq 39, 3) := by decide +kernel
theorem dX12_isValue_24 : decode cX12_isValue 24 = .ok (.iload_n 0, 1) := by decide +kernel
theorem dX12_isValue_25 : decode cX12_isValue 25 = .ok (.bipush 107, 2) := by decide +kernel
theorem dX12_isValue_27 : decode cX12_isValue 27 = .ok (.if_icmp .eq 33, 3) := by decide +kernel
theorem dX12_isValue_30 : decode cX12_isValue 30 = .ok (.iload_n 0, 1) := by decide +kernel
theorem dX12_isValue_31 : decode cX12_isValue 31 = .ok (.bipush 115, 2) := by decide +kernel
theorem dX12_isValue_33 : decode cX12_isValue 33 = .ok (.if_icmp .eq 27, 3) := by decide +kernel
theorem dX12_isValue_36 : decode cX12_isValue 36 = .ok (.iload_n 0, 1) := by decide +kernel
theorem dX12_isValue_37 : decode cX12_isValue 37 = .ok (.bipush 116, 2) := by decide +kernel
theorem dX12_isValue_39 : decode cX12_isValue 39 = .ok (.if_icmp .eq 21, 3) := by decide +kernel
theorem dX12_isValue_42 : decode cX12_isValue 42 = .ok (.iload_n 0, 1) := by decide +kernel
theorem dX12_isValue_43 : decode cX12_isValue 43 = .ok (.bipush 100, 2) := by decide +kernel
theorem dX12_isValue_45 : decode cX12_isValue 45 = .ok (.if_icmp .eq 15, 3) := by decide +kernel
theorem dX12_isValue_48 : decode cX12_isValue 48 = .ok (.iload_n 0, 1) := by decide +kernel
theorem dX12_isValue_49 : decode cX12_isValue 49 = .ok (.bipush 98, 2) := by decide +kernel
theorem dX12_isValue_51 : decode cX12_isValue 51 = .ok (.if_icmp .eq 9, 3) := by decide +kernel
theorem dX12_isValue_54 : decode cX12_isValue 54 = .ok (.iload_n 0, 1) := by decide +kernel
theorem dX12_isValue_55 : decode cX12_isValue 55 = .ok (.bipush 117, 2) := by decide +kernel
theorem dX12_isValue_57 : decode cX12_isValue 57 = .ok (.if_icmp .ne 7, 3) := by decide +kernel
theorem dX12_isValue_60 : decode cX12_isValue 60 = .ok (.iconst 1, 1) := by decide +kernel
theorem dX12_isValue_61 : decode cX12_isValue 61 = .ok (.goto 4, 3) := by decide +kernel
theorem dX12_isValue_64 : decode cX12_isValue 64 = .ok (.iconst 0, 1) := by decide +kernel
theorem dX12_isValue_65 : decode cX12_isValue 65 = .ok (.ireturn, 1) := by decide +kernel
theorem dX12_sums_0 : decode cX12_sums 0 = .ok (.aload_n 0, 1) := by decide +kernel
theorem dX12_sums_1 : decode cX12_sums 1 = .ok (.invokevirtual 275, 3) := by decide +kernel
theorem dX12_sums_4 : decode cX12_sums 4 = .ok (.invokestatic 278, 3) := by decide +kernel
theorem dX12_sums_7 : decode cX12_sums 7 = .ok (.ifCond .ne 17, 3) := by decide +kernel
theorem dX12_sums_10 : decode cX12_sums 10 = .ok (.iload_n 1, 1) := by decide +kernel
theorem dX12_sums_11 : decode cX12_sums 11 = .ok (.ifCond .eq 35, 3) := by decide +kernel
theorem dX12_sums_14 : decode cX12_sums 14 = .ok (.aload_n 0, 1) := by decide +kernel
theorem dX12_sums_15 : decode cX12_sums 15 = .ok (.invokevirtual 275, 3) := by decide +kernel
theorem dX12_sums_18 : decode cX12_sums 18 = .ok (.invokestatic 281, 3) := by decide +kernel
theorem dX12_sums_21 : decode cX12_sums 21 = .ok (.ifCond .eq 25, 3) := by decide +kernel
theorem dX12_sums_24 : decode cX12_sums 24 = .ok (.aload_n 0, 1) := by decide +kernel
theorem dX12_sums_25 : decode cX12_sums 25 = .ok (.aload_n 0, 1) := by decide +kernel
theorem dX12_sums_26 : decode cX12_sums 26 = .ok (.invokevirtual 275, 3) := by decide +kernel
theorem dX12_sums_29 : decode cX12_sums 29 = .ok (.iconst 0, 1) := by decide +kernel
theorem dX12_sums_30 : decode cX12_sums 30 = .ok (.invokevirtual 284, 3) := by decide +kernel
theorem dX12_sums_33 : decode cX12_sums 33 = .ok (.aload_n 0, 1) := by decide +kernel
theorem dX12_sums_34 : decode cX12_sums 34 = .ok (.dup, 1) := by decide +kernel
theorem dX12_sums_35 : decode cX12_sums 35 = .ok (.getfield 251, 3) := by decide +kernel
theorem dX12_sums_38 : decode cX12_sums 38 = .ok (.iconst 1, 1) := by decide +kernel
theorem dX12_sums_39 : decode cX12_sums 39 = .ok (.isub, 1) := by decide +kernel
theorem dX12_sums_40 : decode cX12_sums 40 = .ok (.putfield 251, 3) := by decide +kernel
theorem dX12_sums_43 : decode cX12_sums 43 = .ok (.goto (-43), 3) := by decide +kernel
theorem dX12_sums_46 : decode cX12_sums 46 = .ok (.return_, 1) := by decide +kernel
theorem dX12_joins_0 : decode cX12_joins 0 = .ok (.aload_n 0, 1) := by decide +kernel
theorem dX12_joins_1 : decode cX12_joins 1 = .ok (.invokevirtual 275, 3) := by decide +kernel
theorem dX12_joins_4 : decode cX12_joins 4 = .ok (.bipush 38, 2) := by decide +kernel
theorem dX12_joins_6 : decode cX12_joins 6 = .ok (.if_icmp .eq 16, 3) := by decide +kernel
theorem dX12_joins_9 : decode cX12_joins 9 = .ok (.iload_n 1, 1) := by decide +kernel
theorem dX12_joins_10 : decode cX12_joins 10 = .ok (.ifCond .eq 34, 3) := by decide +kernel
theorem dX12_joins_13 : decode cX12_joins 13 = .ok (.aload_n 0, 1) := by decide +kernel
theorem dX12_joins_14 : decode cX12_joins 14 = .ok (.invokevirtual 275, 3) := by decide +kernel
theorem dX12_joins_17 : decode cX12_joins 17 = .ok (.bipush 124, 2) := by decide +kernel
theorem dX12_joins_19 : decode cX12_joins 19 = .ok (.if_icmp .ne 25, 3) := by decide +kernel
theorem dX12_joins_22 : decode cX12_joins 22 = .ok (.aload_n 0, 1) := by decide +kernel
theorem dX12_joins_23 : decode cX12_joins 23 = .ok (.aload_n 0, 1) := by decide +kernel
theorem dX12_joins_24 : decode cX12_joins 24 = .ok (.invokevirtual 275, 3) := by decide +kernel
theorem dX12_joins_27 : decode cX12_joins 27 = .ok (.iconst 0, 1) := by decide +kernel
theorem dX12_joins_28 : decode cX12_joins 28 = .ok (.invokevirtual 284, 3) := by decide +kernel
theorem dX12_joins_31 : decode cX12_joins 31 = .ok (.aload_n 0, 1) := by decide +kernel
theorem dX12_joins_32 : decode cX12_joins 32 = .ok (.dup, 1) := by decide +kernel
theorem dX12_joins_33 : decode cX12_joins 33 = .ok (.getfield 251, 3) := by decide +kernel
theorem dX12_joins_36 : decode cX12_joins 36 = .ok (.iconst 1, 1) := by decide +kernel
theorem dX12_joins_37 : decode cX12_joins 37 = .ok (.isub, 1) := by decide +kernel
theorem dX12_joins_38 : decode cX12_joins 38 = .ok (.putfield 251, 3) := by decide +kernel
theorem dX12_joins_41 : decode cX12_joins 41 = .ok (.goto (-41), 3) := by decide +kernel
theorem dX12_joins_44 : decode cX12_joins 44 = .ok (.return_, 1) := by decide +kernel
theorem dX12_ends_0 : decode cX12_ends 0 = .ok (.aload_n 0, 1) := by decide +kernel
theorem dX12_ends_1 : decode cX12_ends 1 = .ok (.invokevirtual 275, 3) := by decide +kernel
theorem dX12_ends_4 : decode cX12_ends 4 = .ok (.bipush 33, 2) := by decide +kernel
theorem dX12_ends_6 : decode cX12_ends 6 = .ok (.if_icmp .ne 32, 3) := by decide +kernel
theorem dX12_ends_9 : decode cX12_ends 9 = .ok (.aload_n 0, 1) := by decide +kernel
theorem dX12_ends_10 : decode cX12_ends 10 = .ok (.iconst 2, 1) := by decide +kernel
theorem dX12_ends_11 : decode cX12_ends 11 = .ok (.iconst 0, 1) := by decide +kernel
theorem dX12_ends_12 : decode cX12_ends 12 = .ok (.invokevirtual 284, 3) := by decide +kernel
theorem dX12_ends_15 : decode cX12_ends 15 = .ok (.aload_n 0, 1) := by decide +kernel
theorem dX12_ends_16 : decode cX12_ends 16 = .ok (.dup, 1) := by decide +kernel
theorem dX12_ends_17 : decode cX12_ends 17 = .ok (.getfield 251, 3) := by decide +kernel
theorem dX12_ends_20 : decode cX12_ends 20 = .ok (.iconst 1, 1) := by decide +kernel
theorem dX12_ends_21 : decode cX12_ends 21 = .ok (.isub, 1) := by decide +kernel
theorem dX12_ends_22 : decode cX12_ends 22 = .ok (.putfield 251, 3) := by decide +kernel
theorem dX12_ends_25 : decode cX12_ends 25 = .ok (.aload_n 0, 1) := by decide +kernel
theorem dX12_ends_26 : decode cX12_ends 26 = .ok (.dup, 1) := by decide +kernel
theorem dX12_ends_27 : decode cX12_ends 27 = .ok (.getfield 254, 3) := by decide +kernel
theorem dX12_ends_30 : decode cX12_ends 30 = .ok (.iconst 1, 1) := by decide +kernel
theorem dX12_ends_31 : decode cX12_ends 31 = .ok (.isub, 1) := by decide +kernel
theorem dX12_ends_32 : decode cX12_ends 32 = .ok (.putfield 254, 3) := by decide +kernel
theorem dX12_ends_35 : decode cX12_ends 35 = .ok (.goto (-35), 3) := by decide +kernel
theorem dX12_ends_38 : decode cX12_ends 38 = .ok (.return_, 1) := by decide +kernel
theorem dX12_factor_0 : decode cX12_factor 0 = .ok (.aload_n 0, 1) := by decide +kernel
theorem dX12_factor_1 : decode cX12_factor 1 = .ok (.invokevirtual 244, 3) := by decide +kernel
theorem dX12_factor_4 : decode cX12_factor 4 = .ok (.ifCond .eq 19, 3) := by decide +kernel
theorem dX12_factor_7 : decode cX12_factor 7 = .ok (.aload_n 0, 1) := by decide +kernel
theorem dX12_factor_8 : decode cX12_factor 8 = .ok (.invokevirtual 261, 3) := by decide +kernel
theorem dX12_factor_11 : decode cX12_factor 11 = .ok (.bipush 91, 2) := by decide +kernel
theorem dX12_factor_13 : decode cX12_factor 13 = .ok (.if_icmp .ne 10, 3) := by decide +kernel
theorem dX12_factor_16 : decode cX12_factor 16 = .ok (.aload_n 0, 1) := by decide +kernel
theorem dX12_factor_17 : decode cX12_factor 17 = .ok (.invokevirtual 287, 3) := by decide +kernel
theorem dX12_factor_20 : decode cX12_factor 20 = .ok (.goto (-20), 3) := by decide +kernel
theorem dX12_factor_23 : decode cX12_factor 23 = .ok (.aload_n 0, 1) := by decide +kernel
theorem dX12_factor_24 : decode cX12_factor 24 = .ok (.invokevirtual 244, 3) := by decide +kernel
theorem dX12_factor_27 : decode cX12_factor 27 = .ok (.ifCond .ne 4, 3) := by decide +kernel
theorem dX12_factor_30 : decode cX12_factor 30 = .ok (.return_, 1) := by decide +kernel
theorem dX12_factor_31 : decode cX12_factor 31 = .ok (.aload_n 0, 1) := by decide +kernel
theorem dX12_factor_32 : decode cX12_factor 32 = .ok (.invokevirtual 272, 3) := by decide +kernel
theorem dX12_factor_35 : decode cX12_factor 35 = .ok (.ifCond .eq 15, 3) := by decide +kernel
theorem dX12_factor_38 : decode cX12_factor 38 = .ok (.aload_n 0, 1) := by decide +kernel
theorem dX12_factor_39 : decode cX12_factor 39 = .ok (.iconst 0, 1) := by decide +kernel
theorem dX12_factor_40 : decode cX12_factor 40 = .ok (.aload_n 0, 1) := by decide +kernel
theorem dX12_factor_41 : decode cX12_factor 41 = .ok (.invokevirtual 290, 3) := by decide +kernel
theorem dX12_factor_44 : decode cX12_factor 44 = .ok (.invokevirtual 284, 3) := by decide +kernel
theorem dX12_factor_47 : decode cX12_factor 47 = .ok (.goto 44, 3) := by decide +kernel
theorem dX12_factor_50 : decode cX12_factor 50 = .ok (.aload_n 0, 1) := by decide +kernel
theorem dX12_factor_51 : decode cX12_factor 51 = .ok (.invokevirtual 261, 3) := by decide +kernel
theorem dX12_factor_54 : decode cX12_factor 54 = .ok (.invokestatic 293, 3) := by decide +kernel
theorem dX12_factor_57 : decode cX12_factor 57 = .ok (.ifCond .eq 25, 3) := by decide +kernel
theorem dX12_factor_60 : decode cX12_factor 60 = .ok (.aload_n 0, 1) := by decide +kernel
theorem dX12_factor_61 : decode cX12_factor 61 = .ok (.iconst 1, 1) := by decide +kernel
theorem dX12_factor_62 : decode cX12_factor 62 = .ok (.aload_n 0, 1) := by decide +kernel
theorem dX12_factor_63 : decode cX12_factor 63 = .ok (.invokevirtual 261, 3) := by decide +kernel
theorem dX12_factor_66 : decode cX12_factor 66 = .ok (.invokevirtual 284, 3) := by decide +kernel
theorem dX12_factor_69 : decode cX12_factor 69 = .ok (.aload_n 0, 1) := by decide +kernel
theorem dX12_factor_70 : decode cX12_factor 70 = .ok (.dup, 1) := by decide +kernel
theorem dX12_factor_71 : decode cX12_factor 71 = .ok (.getfield 235, 3) := by decide +kernel
theorem dX12_factor_74 : decode cX12_factor 74 = .ok (.iconst 1, 1) := by decide +kernel
theorem dX12_factor_75 : decode cX12_factor 75 = .ok (.iadd, 1) := by decide +kernel
theorem dX12_factor_76 : decode cX12_factor 76 = .ok (.putfield 235, 3) := by decide +kernel
theorem dX12_factor_79 : decode cX12_factor 79 = .ok (.goto 12, 3) := by decide +kernel
theorem dX12_factor_82 : decode cX12_factor 82 = .ok (.aload_n 0, 1) := by decide +kernel
theorem dX12_factor_83 : decode cX12_factor 83 = .ok (.iconst 1, 1) := by decide +kernel
theorem dX12_factor_84 : decode cX12_factor 84 = .ok (.aload_n 0, 1) := by decide +kernel
theorem dX12_factor_85 : decode cX12_factor 85 = .ok (.getfield 235, 3) := by decide +kernel
theorem dX12_factor_88 : decode cX12_factor 88 = .ok (.invokevirtual 257, 3) := by decide +kernel
theorem dX12_factor_91 : decode cX12_factor 91 = .ok (.return_, 1) := by decide +kernel
theorem dX12_stays_0 : decode cX12_stays 0 = .ok (.aload_n 0, 1) := by decide +kernel
theorem dX12_stays_1 : decode cX12_stays 1 = .ok (.invokevirtual 261, 3) := by decide +kernel
theorem dX12_stays_4 : decode cX12_stays 4 = .ok (.istore_n 1, 1) := by decide +kernel
theorem dX12_stays_5 : decode cX12_stays 5 = .ok (.iload_n 1, 1) := by decide +kernel
theorem dX12_stays_6 : decode cX12_stays 6 = .ok (.invokestatic 278, 3) := by decide +kernel
theorem dX12_stays_9 : decode cX12_stays 9 = .ok (.ifCond .ne 10, 3) := by decide +kernel
theorem dX12_stays_12 : decode cX12_stays 12 = .ok (.iload_n 1, 1) := by decide +kernel
theorem dX12_stays_13 : decode cX12_stays 13 = .ok (.invokestatic 281, 3) := by decide +kernel
theorem dX12_stays_16 : decode cX12_stays 16 = .ok (.ifCond .eq 18, 3) := by decide +kernel
theorem dX12_stays_19 : decode cX12_stays 19 = .ok (.aload_n 0, 1) := by decide +kernel
theorem dX12_stays_20 : decode cX12_stays 20 = .ok (.iload_n 1, 1) := by decide +kernel
theorem dX12_stays_21 : decode cX12_stays 21 = .ok (.invokestatic 281, 3) := by decide +kernel
theorem dX12_stays_24 : decode cX12_stays 24 = .ok (.invokevirtual 296, 3) := by decide +kernel
theorem dX12_stays_27 : decode cX12_stays 27 = .ok (.aload_n 0, 1) := by decide +kernel
theorem dX12_stays_28 : decode cX12_stays 28 = .ok (.iload_n 1, 1) := by decide +kernel
theorem dX12_stays_29 : decode cX12_stays 29 = .ok (.invokevirtual 265, 3) := by decide +kernel
theorem dX12_stays_32 : decode cX12_stays 32 = .ok (.iconst 1, 1) := by decide +kernel
theorem dX12_stays_33 : decode cX12_stays 33 = .ok (.ireturn, 1) := by decide +kernel
theorem dX12_stays_34 : decode cX12_stays 34 = .ok (.aload_n 0, 1) := by decide +kernel
theorem dX12_stays_35 : decode cX12_stays 35 = .ok (.iconst 1, 1) := by decide +kernel
theorem dX12_stays_36 : decode cX12_stays 36 = .ok (.invokevirtual 296, 3) := by decide +kernel
theorem dX12_stays_39 : decode cX12_stays 39 = .ok (.iload_n 1, 1) := by decide +kernel
theorem dX12_stays_40 : decode cX12_stays 40 = .ok (.bipush 93, 2) := by decide +kernel
theorem dX12_stays_42 : decode cX12_stays 42 = .ok (.if_icmp .eq 5, 3) := by decide +kernel
theorem dX12_stays_45 : decode cX12_stays 45 = .ok (.iconst 0, 1) := by decide +kernel
theorem dX12_stays_46 : decode cX12_stays 46 = .ok (.ireturn, 1) := by decide +kernel
theorem dX12_stays_47 : decode cX12_stays 47 = .ok (.aload_n 0, 1) := by decide +kernel
theorem dX12_stays_48 : decode cX12_stays 48 = .ok (.invokevirtual 275, 3) := by decide +kernel
theorem dX12_stays_51 : decode cX12_stays 51 = .ok (.bipush 91, 2) := by decide +kernel
theorem dX12_stays_53 : decode cX12_stays 53 = .ok (.if_icmp .eq 14, 3) := by decide +kernel
theorem dX12_stays_56 : decode cX12_stays 56 = .ok (.aload_n 0, 1) := by decide +kernel
theorem dX12_stays_57 : decode cX12_stays 57 = .ok (.iconst 1, 1) := by decide +kernel
theorem dX12_stays_58 : decode cX12_stays 58 = .ok (.aload_n 0, 1) := by decide +kernel
theorem dX12_stays_59 : decode cX12_stays 59 = .ok (.getfield 235, 3) := by decide +kernel
theorem dX12_stays_62 : decode cX12_stays 62 = .ok (.invokevirtual 257, 3) := by decide +kernel
theorem dX12_stays_65 : decode cX12_stays 65 = .ok (.iconst 0, 1) := by decide +kernel
theorem dX12_stays_66 : decode cX12_stays 66 = .ok (.ireturn, 1) := by decide +kernel
theorem dX12_stays_67 : decode cX12_stays 67 = .ok (.aload_n 0, 1) := by decide +kernel
theorem dX12_stays_68 : decode cX12_stays 68 = .ok (.dup, 1) := by decide +kernel
theorem dX12_stays_69 : decode cX12_stays 69 = .ok (.getfield 251, 3) := by decide +kernel
theorem dX12_stays_72 : decode cX12_stays 72 = .ok (.iconst 1, 1) := by decide +kernel
theorem dX12_stays_73 : decode cX12_stays 73 = .ok (.isub, 1) := by decide +kernel
theorem dX12_stays_74 : decode cX12_stays 74 = .ok (.putfield 251, 3) := by decide +kernel
theorem dX12_stays_77 : decode cX12_stays 77 = .ok (.aload_n 0, 1) := by decide +kernel
theorem dX12_stays_78 : decode cX12_stays 78 = .ok (.dup, 1) := by decide +kernel
theorem dX12_stays_79 : decode cX12_stays 79 = .ok (.getfield 254, 3) := by decide +kernel
theorem dX12_stays_82 : decode cX12_stays 82 = .ok (.iconst 1, 1) := by decide +kernel
theorem dX12_stays_83 : decode cX12_stays 83 = .ok (.isub, 1) := by decide +kernel
theorem dX12_stays_84 : decode cX12_stays 84 = .ok (.putfield 254, 3) := by decide +kernel
theorem dX12_stays_87 : decode cX12_stays 87 = .ok (.aload_n 0, 1) := by decide +kernel
theorem dX12_stays_88 : decode cX12_stays 88 = .ok (.dup, 1) := by decide +kernel
theorem dX12_stays_89 : decode cX12_stays 89 = .ok (.getfield 235, 3) := by decide +kernel
theorem dX12_stays_92 : decode cX12_stays 92 = .ok (.iconst 1, 1) := by decide +kernel
theorem dX12_stays_93 : decode cX12_stays 93 = .ok (.iadd, 1) := by decide +kernel
theorem dX12_stays_94 : decode cX12_stays 94 = .ok (.putfield 235, 3) := by decide +kernel
theorem dX12_stays_97 : decode cX12_stays 97 = .ok (.aload_n 0, 1) := by decide +kernel
theorem dX12_stays_98 : decode cX12_stays 98 = .ok (.iconst 1, 1) := by decide +kernel
theorem dX12_stays_99 : decode cX12_stays 99 = .ok (.putfield 300, 3) := by decide +kernel
theorem dX12_stays_102 : decode cX12_stays 102 = .ok (.iconst 1, 1) := by decide +kernel
theorem dX12_stays_103 : decode cX12_stays 103 = .ok (.ireturn, 1) := by decide +kernel
theorem dX12_value_0 : decode cX12_value 0 = .ok (.iconst 1, 1) := by decide +kernel
theorem dX12_value_1 : decode cX12_value 1 = .ok (.istore_n 1, 1) := by decide +kernel
theorem dX12_value_2 : decode cX12_value 2 = .ok (.aload_n 0, 1) := by decide +kernel
