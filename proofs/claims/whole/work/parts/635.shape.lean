/-! ===== the shape, place by place (printed by a program of ours) ===== -/
theorem shT_1 {m : Mm} (h : Sh m) : gT m 1 = 11 := sh_T h 1 (by decide) rfl
theorem shT_2 {m : Mm} (h : Sh m) : gT m 2 = 6 := sh_T h 2 (by decide) rfl
theorem shT_3 {m : Mm} (h : Sh m) : gT m 3 = 24 := sh_T h 3 (by decide) rfl
theorem shN_3 {m : Mm} (h : Sh m) : gN m 3 = 12 := sh_N h 3 (by decide) rfl
theorem shT_4 {m : Mm} (h : Sh m) : gT m 4 = 25 := sh_T h 4 (by decide) rfl
theorem shN_4 {m : Mm} (h : Sh m) : gN m 4 = 16 := sh_N h 4 (by decide) rfl
theorem shT_5 {m : Mm} (h : Sh m) : gT m 5 = 20 := sh_T h 5 (by decide) rfl
theorem shN_5 {m : Mm} (h : Sh m) : gN m 5 = 5 := sh_N h 5 (by decide) rfl
theorem shT_6 {m : Mm} (h : Sh m) : gT m 6 = 20 := sh_T h 6 (by decide) rfl
theorem shN_6 {m : Mm} (h : Sh m) : gN m 6 = 16 := sh_N h 6 (by decide) rfl
theorem shT_7 {m : Mm} (h : Sh m) : gT m 7 = 20 := sh_T h 7 (by decide) rfl
theorem shN_7 {m : Mm} (h : Sh m) : gN m 7 = 192 := sh_N h 7 (by decide) rfl
theorem shT_8 {m : Mm} (h : Sh m) : gT m 8 = 20 := sh_T h 8 (by decide) rfl
theorem shN_8 {m : Mm} (h : Sh m) : gN m 8 = 192 := sh_N h 8 (by decide) rfl
theorem shT_9 {m : Mm} (h : Sh m) : gT m 9 = 8 := sh_T h 9 (by decide) rfl
theorem shT_10 {m : Mm} (h : Sh m) : gT m 10 = 20 := sh_T h 10 (by decide) rfl
theorem shN_10 {m : Mm} (h : Sh m) : gN m 10 = 16 := sh_N h 10 (by decide) rfl
theorem shT_11 {m : Mm} (h : Sh m) : gT m 11 = 8 := sh_T h 11 (by decide) rfl
theorem shT_12 {m : Mm} (h : Sh m) : gT m 12 = 20 := sh_T h 12 (by decide) rfl
theorem shN_12 {m : Mm} (h : Sh m) : gN m 12 = 16 := sh_N h 12 (by decide) rfl
theorem shT_13 {m : Mm} (h : Sh m) : gT m 13 = 8 := sh_T h 13 (by decide) rfl
theorem shT_14 {m : Mm} (h : Sh m) : gT m 14 = 20 := sh_T h 14 (by decide) rfl
theorem shN_14 {m : Mm} (h : Sh m) : gN m 14 = 16 := sh_N h 14 (by decide) rfl
theorem shT_15 {m : Mm} (h : Sh m) : gT m 15 = 8 := sh_T h 15 (by decide) rfl
theorem shT_16 {m : Mm} (h : Sh m) : gT m 16 = 20 := sh_T h 16 (by decide) rfl
theorem shN_16 {m : Mm} (h : Sh m) : gN m 16 = 16 := sh_N h 16 (by decide) rfl
theorem shT_17 {m : Mm} (h : Sh m) : gT m 17 = 8 := sh_T h 17 (by decide) rfl
theorem shT_18 {m : Mm} (h : Sh m) : gT m 18 = 20 := sh_T h 18 (by decide) rfl
theorem shN_18 {m : Mm} (h : Sh m) : gN m 18 = 16 := sh_N h 18 (by decide) rfl
theorem shT_19 {m : Mm} (h : Sh m) : gT m 19 = 8 := sh_T h 19 (by decide) rfl
theorem shT_20 {m : Mm} (h : Sh m) : gT m 20 = 20 := sh_T h 20 (by decide) rfl
theorem shN_20 {m : Mm} (h : Sh m) : gN m 20 = 16 := sh_N h 20 (by decide) rfl
theorem shT_21 {m : Mm} (h : Sh m) : gT m 21 = 8 := sh_T h 21 (by decide) rfl
theorem shT_22 {m : Mm} (h : Sh m) : gT m 22 = 20 := sh_T h 22 (by decide) rfl
theorem shN_22 {m : Mm} (h : Sh m) : gN m 22 = 16 := sh_N h 22 (by decide) rfl
theorem shT_23 {m : Mm} (h : Sh m) : gT m 23 = 8 := sh_T h 23 (by decide) rfl
theorem shT_24 {m : Mm} (h : Sh m) : gT m 24 = 20 := sh_T h 24 (by decide) rfl
theorem shN_24 {m : Mm} (h : Sh m) : gN m 24 = 16 := sh_N h 24 (by decide) rfl
theorem shT_25 {m : Mm} (h : Sh m) : gT m 25 = 8 := sh_T h 25 (by decide) rfl
theorem shT_26 {m : Mm} (h : Sh m) : gT m 26 = 20 := sh_T h 26 (by decide) rfl
theorem shN_26 {m : Mm} (h : Sh m) : gN m 26 = 16 := sh_N h 26 (by decide) rfl
theorem shT_27 {m : Mm} (h : Sh m) : gT m 27 = 8 := sh_T h 27 (by decide) rfl
theorem shT_28 {m : Mm} (h : Sh m) : gT m 28 = 20 := sh_T h 28 (by decide) rfl
theorem shN_28 {m : Mm} (h : Sh m) : gN m 28 = 16 := sh_N h 28 (by decide) rfl
theorem shT_29 {m : Mm} (h : Sh m) : gT m 29 = 8 := sh_T h 29 (by decide) rfl
theorem shT_30 {m : Mm} (h : Sh m) : gT m 30 = 20 := sh_T h 30 (by decide) rfl
theorem shN_30 {m : Mm} (h : Sh m) : gN m 30 = 16 := sh_N h 30 (by decide) rfl
theorem shT_31 {m : Mm} (h : Sh m) : gT m 31 = 8 := sh_T h 31 (by decide) rfl
theorem shT_32 {m : Mm} (h : Sh m) : gT m 32 = 20 := sh_T h 32 (by decide) rfl
theorem shN_32 {m : Mm} (h : Sh m) : gN m 32 = 16 := sh_N h 32 (by decide) rfl
theorem shT_33 {m : Mm} (h : Sh m) : gT m 33 = 2 := sh_T h 33 (by decide) rfl
theorem shT_34 {m : Mm} (h : Sh m) : gT m 34 = 20 := sh_T h 34 (by decide) rfl
theorem shN_34 {m : Mm} (h : Sh m) : gN m 34 = 5 := sh_N h 34 (by decide) rfl
theorem shT_35 {m : Mm} (h : Sh m) : gT m 35 = 2 := sh_T h 35 (by decide) rfl
theorem shT_36 {m : Mm} (h : Sh m) : gT m 36 = 20 := sh_T h 36 (by decide) rfl
theorem shN_36 {m : Mm} (h : Sh m) : gN m 36 = 5 := sh_N h 36 (by decide) rfl
theorem shT_37 {m : Mm} (h : Sh m) : gT m 37 = 2 := sh_T h 37 (by decide) rfl
theorem shT_38 {m : Mm} (h : Sh m) : gT m 38 = 20 := sh_T h 38 (by decide) rfl
theorem shN_38 {m : Mm} (h : Sh m) : gN m 38 = 5 := sh_N h 38 (by decide) rfl
theorem shT_39 {m : Mm} (h : Sh m) : gT m 39 = 2 := sh_T h 39 (by decide) rfl
theorem shT_40 {m : Mm} (h : Sh m) : gT m 40 = 20 := sh_T h 40 (by decide) rfl
theorem shN_40 {m : Mm} (h : Sh m) : gN m 40 = 5 := sh_N h 40 (by decide) rfl
theorem shT_41 {m : Mm} (h : Sh m) : gT m 41 = 2 := sh_T h 41 (by decide) rfl
theorem shT_42 {m : Mm} (h : Sh m) : gT m 42 = 20 := sh_T h 42 (by decide) rfl
theorem shN_42 {m : Mm} (h : Sh m) : gN m 42 = 5 := sh_N h 42 (by decide) rfl
theorem shT_43 {m : Mm} (h : Sh m) : gT m 43 = 2 := sh_T h 43 (by decide) rfl
theorem shT_44 {m : Mm} (h : Sh m) : gT m 44 = 20 := sh_T h 44 (by decide) rfl
theorem shN_44 {m : Mm} (h : Sh m) : gN m 44 = 5 := sh_N h 44 (by decide) rfl
theorem shT_45 {m : Mm} (h : Sh m) : gT m 45 = 2 := sh_T h 45 (by decide) rfl
theorem shT_46 {m : Mm} (h : Sh m) : gT m 46 = 20 := sh_T h 46 (by decide) rfl
theorem shN_46 {m : Mm} (h : Sh m) : gN m 46 = 5 := sh_N h 46 (by decide) rfl
theorem shT_47 {m : Mm} (h : Sh m) : gT m 47 = 2 := sh_T h 47 (by decide) rfl
theorem shT_48 {m : Mm} (h : Sh m) : gT m 48 = 20 := sh_T h 48 (by decide) rfl
theorem shN_48 {m : Mm} (h : Sh m) : gN m 48 = 5 := sh_N h 48 (by decide) rfl
theorem shT_49 {m : Mm} (h : Sh m) : gT m 49 = 2 := sh_T h 49 (by decide) rfl
theorem shT_50 {m : Mm} (h : Sh m) : gT m 50 = 20 := sh_T h 50 (by decide) rfl
theorem shN_50 {m : Mm} (h : Sh m) : gN m 50 = 5 := sh_N h 50 (by decide) rfl
theorem shT_51 {m : Mm} (h : Sh m) : gT m 51 = 2 := sh_T h 51 (by decide) rfl
theorem shT_52 {m : Mm} (h : Sh m) : gT m 52 = 20 := sh_T h 52 (by decide) rfl
theorem shN_52 {m : Mm} (h : Sh m) : gN m 52 = 5 := sh_N h 52 (by decide) rfl
theorem shT_53 {m : Mm} (h : Sh m) : gT m 53 = 2 := sh_T h 53 (by decide) rfl
theorem shT_54 {m : Mm} (h : Sh m) : gT m 54 = 20 := sh_T h 54 (by decide) rfl
theorem shN_54 {m : Mm} (h : Sh m) : gN m 54 = 5 := sh_N h 54 (by decide) rfl
theorem shT_55 {m : Mm} (h : Sh m) : gT m 55 = 2 := sh_T h 55 (by decide) rfl
theorem shT_56 {m : Mm} (h : Sh m) : gT m 56 = 20 := sh_T h 56 (by decide) rfl
theorem shN_56 {m : Mm} (h : Sh m) : gN m 56 = 5 := sh_N h 56 (by decide) rfl
theorem shT_57 {m : Mm} (h : Sh m) : gT m 57 = 2 := sh_T h 57 (by decide) rfl
theorem shT_58 {m : Mm} (h : Sh m) : gT m 58 = 20 := sh_T h 58 (by decide) rfl
theorem shN_58 {m : Mm} (h : Sh m) : gN m 58 = 5 := sh_N h 58 (by decide) rfl
theorem shT_59 {m : Mm} (h : Sh m) : gT m 59 = 2 := sh_T h 59 (by decide) rfl
theorem shT_60 {m : Mm} (h : Sh m) : gT m 60 = 20 := sh_T h 60 (by decide) rfl
theorem shN_60 {m : Mm} (h : Sh m) : gN m 60 = 5 := sh_N h 60 (by decide) rfl
theorem shT_61 {m : Mm} (h : Sh m) : gT m 61 = 2 := sh_T h 61 (by decide) rfl
theorem shT_62 {m : Mm} (h : Sh m) : gT m 62 = 20 := sh_T h 62 (by decide) rfl
theorem shN_62 {m : Mm} (h : Sh m) : gN m 62 = 5 := sh_N h 62 (by decide) rfl
theorem shT_63 {m : Mm} (h : Sh m) : gT m 63 = 2 := sh_T h 63 (by decide) rfl
theorem shT_64 {m : Mm} (h : Sh m) : gT m 64 = 20 := sh_T h 64 (by decide) rfl
theorem shN_64 {m : Mm} (h : Sh m) : gN m 64 = 5 := sh_N h 64 (by decide) rfl
theorem shT_65 {m : Mm} (h : Sh m) : gT m 65 = 6 := sh_T h 65 (by decide) rfl
theorem shT_66 {m : Mm} (h : Sh m) : gT m 66 = 24 := sh_T h 66 (by decide) rfl
theorem shN_66 {m : Mm} (h : Sh m) : gN m 66 = 12 := sh_N h 66 (by decide) rfl
theorem shT_67 {m : Mm} (h : Sh m) : gT m 67 = 25 := sh_T h 67 (by decide) rfl
theorem shN_67 {m : Mm} (h : Sh m) : gN m 67 = 16 := sh_N h 67 (by decide) rfl
theorem shT_68 {m : Mm} (h : Sh m) : gT m 68 = 20 := sh_T h 68 (by decide) rfl
theorem shN_68 {m : Mm} (h : Sh m) : gN m 68 = 5 := sh_N h 68 (by decide) rfl
theorem shT_69 {m : Mm} (h : Sh m) : gT m 69 = 20 := sh_T h 69 (by decide) rfl
theorem shN_69 {m : Mm} (h : Sh m) : gN m 69 = 16 := sh_N h 69 (by decide) rfl
theorem shT_70 {m : Mm} (h : Sh m) : gT m 70 = 20 := sh_T h 70 (by decide) rfl
theorem shN_70 {m : Mm} (h : Sh m) : gN m 70 = 192 := sh_N h 70 (by decide) rfl
theorem shT_71 {m : Mm} (h : Sh m) : gT m 71 = 20 := sh_T h 71 (by decide) rfl
theorem shN_71 {m : Mm} (h : Sh m) : gN m 71 = 192 := sh_N h 71 (by decide) rfl
theorem shT_72 {m : Mm} (h : Sh m) : gT m 72 = 8 := sh_T h 72 (by decide) rfl
theorem shT_73 {m : Mm} (h : Sh m) : gT m 73 = 20 := sh_T h 73 (by decide) rfl
theorem shN_73 {m : Mm} (h : Sh m) : gN m 73 = 16 := sh_N h 73 (by decide) rfl
theorem shT_74 {m : Mm} (h : Sh m) : gT m 74 = 8 := sh_T h 74 (by decide) rfl
theorem shT_75 {m : Mm} (h : Sh m) : gT m 75 = 20 := sh_T h 75 (by decide) rfl
theorem shN_75 {m : Mm} (h : Sh m) : gN m 75 = 16 := sh_N h 75 (by decide) rfl
theorem shT_76 {m : Mm} (h : Sh m) : gT m 76 = 8 := sh_T h 76 (by decide) rfl
theorem shT_77 {m : Mm} (h : Sh m) : gT m 77 = 20 := sh_T h 77 (by decide) rfl
theorem shN_77 {m : Mm} (h : Sh m) : gN m 77 = 16 := sh_N h 77 (by decide) rfl
theorem shT_78 {m : Mm} (h : Sh m) : gT m 78 = 8 := sh_T h 78 (by decide) rfl
theorem shT_79 {m : Mm} (h : Sh m) : gT m 79 = 20 := sh_T h 79 (by decide) rfl
theorem shN_79 {m : Mm} (h : Sh m) : gN m 79 = 16 := sh_N h 79 (by decide) rfl
theorem shT_80 {m : Mm} (h : Sh m) : gT m 80 = 8 := sh_T h 80 (by decide) rfl
theorem shT_81 {m : Mm} (h : Sh m) : gT m 81 = 20 := sh_T h 81 (by decide) rfl
theorem shN_81 {m : Mm} (h : Sh m) : gN m 81 = 16 := sh_N h 81 (by decide) rfl
theorem shT_82 {m : Mm} (h : Sh m) : gT m 82 = 8 := sh_T h 82 (by decide) rfl
theorem shT_83 {m : Mm} (h : Sh m) : gT m 83 = 20 := sh_T h 83 (by decide) rfl
theorem shN_83 {m : Mm} (h : Sh m) : gN m 83 = 16 := sh_N h 83 (by decide) rfl
theorem shT_84 {m : Mm} (h : Sh m) : gT m 84 = 8 := sh_T h 84 (by decide) rfl
theorem shT_85 {m : Mm} (h : Sh m) : gT m 85 = 20 := sh_T h 85 (by decide) rfl
theorem shN_85 {m : Mm} (h : Sh m) : gN m 85 = 16 := sh_N h 85 (by decide) rfl
theorem shT_86 {m : Mm} (h : Sh m) : gT m 86 = 8 := sh_T h 86 (by decide) rfl
theorem shT_87 {m : Mm} (h : Sh m) : gT m 87 = 20 := sh_T h 87 (by decide) rfl
theorem shN_87 {m : Mm} (h : Sh m) : gN m 87 = 16 := sh_N h 87 (by decide) rfl
theorem shT_88 {m : Mm} (h : Sh m) : gT m 88 = 8 := sh_T h 88 (by decide) rfl
theorem shT_89 {m : Mm} (h : Sh m) : gT m 89 = 20 := sh_T h 89 (by decide) rfl
theorem shN_89 {m : Mm} (h : Sh m) : gN m 89 = 16 := sh_N h 89 (by decide) rfl
theorem shT_90 {m : Mm} (h : Sh m) : gT m 90 = 8 := sh_T h 90 (by decide) rfl
theorem shT_91 {m : Mm} (h : Sh m) : gT m 91 = 20 := sh_T h 91 (by decide) rfl
theorem shN_91 {m : Mm} (h : Sh m) : gN m 91 = 16 := sh_N h 91 (by decide) rfl
theorem shT_92 {m : Mm} (h : Sh m) : gT m 92 = 8 := sh_T h 92 (by decide) rfl
theorem shT_93 {m : Mm} (h : Sh m) : gT m 93 = 20 := sh_T h 93 (by decide) rfl
theorem shN_93 {m : Mm} (h : Sh m) : gN m 93 = 16 := sh_N h 93 (by decide) rfl
theorem shT_94 {m : Mm} (h : Sh m) : gT m 94 = 8 := sh_T h 94 (by decide) rfl
theorem shT_95 {m : Mm} (h : Sh m) : gT m 95 = 20 := sh_T h 95 (by decide) rfl
theorem shN_95 {m : Mm} (h : Sh m) : gN m 95 = 16 := sh_N h 95 (by decide) rfl
theorem shT_96 {m : Mm} (h : Sh m) : gT m 96 = 2 := sh_T h 96 (by decide) rfl
theorem shT_97 {m : Mm} (h : Sh m) : gT m 97 = 20 := sh_T h 97 (by decide) rfl
theorem shN_97 {m : Mm} (h : Sh m) : gN m 97 = 5 := sh_N h 97 (by decide) rfl
theorem shT_98 {m : Mm} (h : Sh m) : gT m 98 = 2 := sh_T h 98 (by decide) rfl
theorem shT_99 {m : Mm} (h : Sh m) : gT m 99 = 20 := sh_T h 99 (by decide) rfl
theorem shN_99 {m : Mm} (h : Sh m) : gN m 99 = 5 := sh_N h 99 (by decide) rfl
theorem shT_100 {m : Mm} (h : Sh m) : gT m 100 = 2 := sh_T h 100 (by decide) rfl
theorem shT_101 {m : Mm} (h : Sh m) : gT m 101 = 20 := sh_T h 101 (by decide) rfl
theorem shN_101 {m : Mm} (h : Sh m) : gN m 101 = 5 := sh_N h 101 (by decide) rfl
theorem shT_102 {m : Mm} (h : Sh m) : gT m 102 = 2 := sh_T h 102 (by decide) rfl
theorem shT_103 {m : Mm} (h : Sh m) : gT m 103 = 20 := sh_T h 103 (by decide) rfl
theorem shN_103 {m : Mm} (h : Sh m) : gN m 103 = 5 := sh_N h 103 (by decide) rfl
theorem shT_104 {m : Mm} (h : Sh m) : gT m 104 = 2 := sh_T h 104 (by decide) rfl
theorem shT_105 {m : Mm} (h : Sh m) : gT m 105 = 20 := sh_T h 105 (by decide) rfl
theorem shN_105 {m : Mm} (h : Sh m) : gN m 105 = 5 := sh_N h 105 (by decide) rfl
theorem shT_106 {m : Mm} (h : Sh m) : gT m 106 = 2 := sh_T h 106 (by decide) rfl
theorem shT_107 {m : Mm} (h : Sh m) : gT m 107 = 20 := sh_T h 107 (by decide) rfl
theorem shN_107 {m : Mm} (h : Sh m) : gN m 107 = 5 := sh_N h 107 (by decide) rfl
theorem shT_108 {m : Mm} (h : Sh m) : gT m 108 = 2 := sh_T h 108 (by decide) rfl
theorem shT_109 {m : Mm} (h : Sh m) : gT m 109 = 20 := sh_T h 109 (by decide) rfl
theorem shN_109 {m : Mm} (h : Sh m) : gN m 109 = 5 := sh_N h 109 (by decide) rfl
theorem shT_110 {m : Mm} (h : Sh m) : gT m 110 = 2 := sh_T h 110 (by decide) rfl
theorem shT_111 {m : Mm} (h : Sh m) : gT m 111 = 20 := sh_T h 111 (by decide) rfl
theorem shN_111 {m : Mm} (h : Sh m) : gN m 111 = 5 := sh_N h 111 (by decide) rfl
theorem shT_112 {m : Mm} (h : Sh m) : gT m 112 = 2 := sh_T h 112 (by decide) rfl
theorem shT_113 {m : Mm} (h : Sh m) : gT m 113 = 20 := sh_T h 113 (by decide) rfl
theorem shN_113 {m : Mm} (h : Sh m) : gN m 113 = 5 := sh_N h 113 (by decide) rfl
theorem shT_114 {m : Mm} (h : Sh m) : gT m 114 = 2 := sh_T h 114 (by decide) rfl
theorem shT_115 {m : Mm} (h : Sh m) : gT m 115 = 20 := sh_T h 115 (by decide) rfl
theorem shN_115 {m : Mm} (h : Sh m) : gN m 115 = 5 := sh_N h 115 (by decide) rfl
theorem shT_116 {m : Mm} (h : Sh m) : gT m 116 = 2 := sh_T h 116 (by decide) rfl
theorem shT_117 {m : Mm} (h : Sh m) : gT m 117 = 20 := sh_T h 117 (by decide) rfl
theorem shN_117 {m : Mm} (h : Sh m) : gN m 117 = 5 := sh_N h 117 (by decide) rfl
theorem shT_118 {m : Mm} (h : Sh m) : gT m 118 = 2 := sh_T h 118 (by decide) rfl
theorem shT_119 {m : Mm} (h : Sh m) : gT m 119 = 20 := sh_T h 119 (by decide) rfl
theorem shN_119 {m : Mm} (h : Sh m) : gN m 119 = 5 := sh_N h 119 (by decide) rfl
theorem shT_120 {m : Mm} (h : Sh m) : gT m 120 = 2 := sh_T h 120 (by decide) rfl
theorem shT_121 {m : Mm} (h : Sh m) : gT m 121 = 20 := sh_T h 121 (by decide) rfl
theorem shN_121 {m : Mm} (h : Sh m) : gN m 121 = 5 := sh_N h 121 (by decide) rfl
theorem shT_122 {m : Mm} (h : Sh m) : gT m 122 = 2 := sh_T h 122 (by decide) rfl
theorem shT_123 {m : Mm} (h : Sh m) : gT m 123 = 20 := sh_T h 123 (by decide) rfl
theorem shN_123 {m : Mm} (h : Sh m) : gN m 123 = 5 := sh_N h 123 (by decide) rfl
theorem shT_124 {m : Mm} (h : Sh m) : gT m 124 = 2 := sh_T h 124 (by decide) rfl
theorem shT_125 {m : Mm} (h : Sh m) : gT m 125 = 20 := sh_T h 125 (by decide) rfl
theorem shN_125 {m : Mm} (h : Sh m) : gN m 125 = 5 := sh_N h 125 (by decide) rfl
theorem shT_126 {m : Mm} (h : Sh m) : gT m 126 = 2 := sh_T h 126 (by decide) rfl
theorem shT_127 {m : Mm} (h : Sh m) : gT m 127 = 20 := sh_T h 127 (by decide) rfl
theorem shN_127 {m : Mm} (h : Sh m) : gN m 127 = 5 := sh_N h 127 (by decide) rfl
theorem shT_128 {m : Mm} (h : Sh m) : gT m 128 = 6 := sh_T h 128 (by decide) rfl
theorem shT_129 {m : Mm} (h : Sh m) : gT m 129 = 24 := sh_T h 129 (by decide) rfl
theorem shN_129 {m : Mm} (h : Sh m) : gN m 129 = 12 := sh_N h 129 (by decide) rfl
theorem shT_130 {m : Mm} (h : Sh m) : gT m 130 = 25 := sh_T h 130 (by decide) rfl
theorem shN_130 {m : Mm} (h : Sh m) : gN m 130 = 16 := sh_N h 130 (by decide) rfl
theorem shT_131 {m : Mm} (h : Sh m) : gT m 131 = 20 := sh_T h 131 (by decide) rfl
theorem shN_131 {m : Mm} (h : Sh m) : gN m 131 = 5 := sh_N h 131 (by decide) rfl
theorem shT_132 {m : Mm} (h : Sh m) : gT m 132 = 20 := sh_T h 132 (by decide) rfl
theorem shN_132 {m : Mm} (h : Sh m) : gN m 132 = 16 := sh_N h 132 (by decide) rfl
theorem shT_133 {m : Mm} (h : Sh m) : gT m 133 = 20 := sh_T h 133 (by decide) rfl
theorem shN_133 {m : Mm} (h : Sh m) : gN m 133 = 192 := sh_N h 133 (by decide) rfl
theorem shT_134 {m : Mm} (h : Sh m) : gT m 134 = 20 := sh_T h 134 (by decide) rfl
theorem shN_134 {m : Mm} (h : Sh m) : gN m 134 = 192 := sh_N h 134 (by decide) rfl
theorem shT_135 {m : Mm} (h : Sh m) : gT m 135 = 8 := sh_T h 135 (by decide) rfl
theorem shT_136 {m : Mm} (h : Sh m) : gT m 136 = 20 := sh_T h 136 (by decide) rfl
theorem shN_136 {m : Mm} (h : Sh m) : gN m 136 = 16 := sh_N h 136 (by decide) rfl
theorem shT_137 {m : Mm} (h : Sh m) : gT m 137 = 8 := sh_T h 137 (by decide) rfl
theorem shT_138 {m : Mm} (h : Sh m) : gT m 138 = 20 := sh_T h 138 (by decide) rfl
theorem shN_138 {m : Mm} (h : Sh m) : gN m 138 = 16 := sh_N h 138 (by decide) rfl
theorem shT_139 {m : Mm} (h : Sh m) : gT m 139 = 8 := sh_T h 139 (by decide) rfl
theorem shT_140 {m : Mm} (h : Sh m) : gT m 140 = 20 := sh_T h 140 (by decide) rfl
theorem shN_140 {m : Mm} (h : Sh m) : gN m 140 = 16 := sh_N h 140 (by decide) rfl
theorem shT_141 {m : Mm} (h : Sh m) : gT m 141 = 8 := sh_T h 141 (by decide) rfl
theorem shT_142 {m : Mm} (h : Sh m) : gT m 142 = 20 := sh_T h 142 (by decide) rfl
theorem shN_142 {m : Mm} (h : Sh m) : gN m 142 = 16 := sh_N h 142 (by decide) rfl
theorem shT_143 {m : Mm} (h : Sh m) : gT m 143 = 8 := sh_T h 143 (by decide) rfl
theorem shT_144 {m : Mm} (h : Sh m) : gT m 144 = 20 := sh_T h 144 (by decide) rfl
theorem shN_144 {m : Mm} (h : Sh m) : gN m 144 = 16 := sh_N h 144 (by decide) rfl
theorem shT_145 {m : Mm} (h : Sh m) : gT m 145 = 8 := sh_T h 145 (by decide) rfl
theorem shT_146 {m : Mm} (h : Sh m) : gT m 146 = 20 := sh_T h 146 (by decide) rfl
theorem shN_146 {m : Mm} (h : Sh m) : gN m 146 = 16 := sh_N h 146 (by decide) rfl
theorem shT_147 {m : Mm} (h : Sh m) : gT m 147 = 8 := sh_T h 147 (by decide) rfl
theorem shT_148 {m : Mm} (h : Sh m) : gT m 148 = 20 := sh_T h 148 (by decide) rfl
theorem shN_148 {m : Mm} (h : Sh m) : gN m 148 = 16 := sh_N h 148 (by decide) rfl
theorem shT_149 {m : Mm} (h : Sh m) : gT m 149 = 8 := sh_T h 149 (by decide) rfl
theorem shT_150 {m : Mm} (h : Sh m) : gT m 150 = 20 := sh_T h 150 (by decide) rfl
theorem shN_150 {m : Mm} (h : Sh m) : gN m 150 = 16 := sh_N h 150 (by decide) rfl
theorem shT_151 {m : Mm} (h : Sh m) : gT m 151 = 8 := sh_T h 151 (by decide) rfl
theorem shT_152 {m : Mm} (h : Sh m) : gT m 152 = 20 := sh_T h 152 (by decide) rfl
theorem shN_152 {m : Mm} (h : Sh m) : gN m 152 = 16 := sh_N h 152 (by decide) rfl
theorem shT_153 {m : Mm} (h : Sh m) : gT m 153 = 8 := sh_T h 153 (by decide) rfl
theorem shT_154 {m : Mm} (h : Sh m) : gT m 154 = 20 := sh_T h 154 (by decide) rfl
theorem shN_154 {m : Mm} (h : Sh m) : gN m 154 = 16 := sh_N h 154 (by decide) rfl
theorem shT_155 {m : Mm} (h : Sh m) : gT m 155 = 8 := sh_T h 155 (by decide) rfl
theorem shT_156 {m : Mm} (h : Sh m) : gT m 156 = 20 := sh_T h 156 (by decide) rfl
theorem shN_156 {m : Mm} (h : Sh m) : gN m 156 = 16 := sh_N h 156 (by decide) rfl
theorem shT_157 {m : Mm} (h : Sh m) : gT m 157 = 8 := sh_T h 157 (by decide) rfl
theorem shT_158 {m : Mm} (h : Sh m) : gT m 158 = 20 := sh_T h 158 (by decide) rfl
theorem shN_158 {m : Mm} (h : Sh m) : gN m 158 = 16 := sh_N h 158 (by decide) rfl
theorem shT_159 {m : Mm} (h : Sh m) : gT m 159 = 2 := sh_T h 159 (by decide) rfl
theorem shT_160 {m : Mm} (h : Sh m) : gT m 160 = 20 := sh_T h 160 (by decide) rfl
theorem shN_160 {m : Mm} (h : Sh m) : gN m 160 = 5 := sh_N h 160 (by decide) rfl
theorem shT_161 {m : Mm} (h : Sh m) : gT m 161 = 2 := sh_T h 161 (by decide) rfl
theorem shT_162 {m : Mm} (h : Sh m) : gT m 162 = 20 := sh_T h 162 (by decide) rfl
theorem shN_162 {m : Mm} (h : Sh m) : gN m 162 = 5 := sh_N h 162 (by decide) rfl
theorem shT_163 {m : Mm} (h : Sh m) : gT m 163 = 2 := sh_T h 163 (by decide) rfl
theorem shT_164 {m : Mm} (h : Sh m) : gT m 164 = 20 := sh_T h 164 (by decide) rfl
theorem shN_164 {m : Mm} (h : Sh m) : gN m 164 = 5 := sh_N h 164 (by decide) rfl
theorem shT_165 {m : Mm} (h : Sh m) : gT m 165 = 2 := sh_T h 165 (by decide) rfl
theorem shT_166 {m : Mm} (h : Sh m) : gT m 166 = 20 := sh_T h 166 (by decide) rfl
theorem shN_166 {m : Mm} (h : Sh m) : gN m 166 = 5 := sh_N h 166 (by decide) rfl
theorem shT_167 {m : Mm} (h : Sh m) : gT m 167 = 2 := sh_T h 167 (by decide) rfl
theorem shT_168 {m : Mm} (h : Sh m) : gT m 168 = 20 := sh_T h 168 (by decide) rfl
theorem shN_168 {m : Mm} (h : Sh m) : gN m 168 = 5 := sh_N h 168 (by decide) rfl
theorem shT_169 {m : Mm} (h : Sh m) : gT m 169 = 2 := sh_T h 169 (by decide) rfl
theorem shT_170 {m : Mm} (h : Sh m) : gT m 170 = 20 := sh_T h 170 (by decide) rfl
theorem shN_170 {m : Mm} (h : Sh m) : gN m 170 = 5 := sh_N h 170 (by decide) rfl
theorem shT_171 {m : Mm} (h : Sh m) : gT m 171 = 2 := sh_T h 171 (by decide) rfl
theorem shT_172 {m : Mm} (h : Sh m) : gT m 172 = 20 := sh_T h 172 (by decide) rfl
theorem shN_172 {m : Mm} (h : Sh m) : gN m 172 = 5 := sh_N h 172 (by decide) rfl
theorem shT_173 {m : Mm} (h : Sh m) : gT m 173 = 2 := sh_T h 173 (by decide) rfl
theorem shT_174 {m : Mm} (h : Sh m) : gT m 174 = 20 := sh_T h 174 (by decide) rfl
theorem shN_174 {m : Mm} (h : Sh m) : gN m 174 = 5 := sh_N h 174 (by decide) rfl
theorem shT_175 {m : Mm} (h : Sh m) : gT m 175 = 2 := sh_T h 175 (by decide) rfl
theorem shT_176 {m : Mm} (h : Sh m) : gT m 176 = 20 := sh_T h 176 (by decide) rfl
theorem shN_176 {m : Mm} (h : Sh m) : gN m 176 = 5 := sh_N h 176 (by decide) rfl
theorem shT_177 {m : Mm} (h : Sh m) : gT m 177 = 2 := sh_T h 177 (by decide) rfl
theorem shT_178 {m : Mm} (h : Sh m) : gT m 178 = 20 := sh_T h 178 (by decide) rfl
theorem shN_178 {m : Mm} (h : Sh m) : gN m 178 = 5 := sh_N h 178 (by decide) rfl
theorem shT_179 {m : Mm} (h : Sh m) : gT m 179 = 2 := sh_T h 179 (by decide) rfl
theorem shT_180 {m : Mm} (h : Sh m) : gT m 180 = 20 := sh_T h 180 (by decide) rfl
theorem shN_180 {m : Mm} (h : Sh m) : gN m 180 = 5 := sh_N h 180 (by decide) rfl
theorem shT_181 {m : Mm} (h : Sh m) : gT m 181 = 2 := sh_T h 181 (by decide) rfl
theorem shT_182 {m : Mm} (h : Sh m) : gT m 182 = 20 := sh_T h 182 (by decide) rfl
theorem shN_182 {m : Mm} (h : Sh m) : gN m 182 = 5 := sh_N h 182 (by decide) rfl
theorem shT_183 {m : Mm} (h : Sh m) : gT m 183 = 2 := sh_T h 183 (by decide) rfl
theorem shT_184 {m : Mm} (h : Sh m) : gT m 184 = 20 := sh_T h 184 (by decide) rfl
theorem shN_184 {m : Mm} (h : Sh m) : gN m 184 = 5 := sh_N h 184 (by decide) rfl
theorem shT_185 {m : Mm} (h : Sh m) : gT m 185 = 2 := sh_T h 185 (by decide) rfl
theorem shT_186 {m : Mm} (h : Sh m) : gT m 186 = 20 := sh_T h 186 (by decide) rfl
theorem shN_186 {m : Mm} (h : Sh m) : gN m 186 = 5 := sh_N h 186 (by decide) rfl
theorem shT_187 {m : Mm} (h : Sh m) : gT m 187 = 2 := sh_T h 187 (by decide) rfl
theorem shT_188 {m : Mm} (h : Sh m) : gT m 188 = 20 := sh_T h 188 (by decide) rfl
theorem shN_188 {m : Mm} (h : Sh m) : gN m 188 = 5 := sh_N h 188 (by decide) rfl
theorem shT_189 {m : Mm} (h : Sh m) : gT m 189 = 2 := sh_T h 189 (by decide) rfl
theorem shT_190 {m : Mm} (h : Sh m) : gT m 190 = 20 := sh_T h 190 (by decide) rfl
theorem shN_190 {m : Mm} (h : Sh m) : gN m 190 = 5 := sh_N h 190 (by decide) rfl
theorem shT_191 {m : Mm} (h : Sh m) : gT m 191 = 9 := sh_T h 191 (by decide) rfl
theorem shT_192 {m : Mm} (h : Sh m) : gT m 192 = 20 := sh_T h 192 (by decide) rfl
theorem shN_192 {m : Mm} (h : Sh m) : gN m 192 = 220 := sh_N h 192 (by decide) rfl
theorem shT_193 {m : Mm} (h : Sh m) : gT m 193 = 5 := sh_T h 193 (by decide) rfl
theorem shT_194 {m : Mm} (h : Sh m) : gT m 194 = 1 := sh_T h 194 (by decide) rfl
theorem shT_195 {m : Mm} (h : Sh m) : gT m 195 = 20 := sh_T h 195 (by decide) rfl
theorem shN_195 {m : Mm} (h : Sh m) : gN m 195 = 4 := sh_N h 195 (by decide) rfl
theorem shT_196 {m : Mm} (h : Sh m) : gT m 196 = 20 := sh_T h 196 (by decide) rfl
theorem shN_196 {m : Mm} (h : Sh m) : gN m 196 = 4 := sh_N h 196 (by decide) rfl
theorem shT_197 {m : Mm} (h : Sh m) : gT m 197 = 10 := sh_T h 197 (by decide) rfl
theorem shT_198 {m : Mm} (h : Sh m) : gT m 198 = 20 := sh_T h 198 (by decide) rfl
theorem shN_198 {m : Mm} (h : Sh m) : gN m 198 = 30 := sh_N h 198 (by decide) rfl
theorem shT_199 {m : Mm} (h : Sh m) : gT m 199 = 20 := sh_T h 199 (by decide) rfl
theorem shN_199 {m : Mm} (h : Sh m) : gN m 199 = 30 := sh_N h 199 (by decide) rfl
theorem shT_200 {m : Mm} (h : Sh m) : gT m 200 = 20 := sh_T h 200 (by decide) rfl
theorem shN_200 {m : Mm} (h : Sh m) : gN m 200 = 30 := sh_N h 200 (by decide) rfl
theorem shT_201 {m : Mm} (h : Sh m) : gT m 201 = 3 := sh_T h 201 (by decide) rfl
theorem shT_202 {m : Mm} (h : Sh m) : gT m 202 = 20 := sh_T h 202 (by decide) rfl
theorem shN_202 {m : Mm} (h : Sh m) : gN m 202 = 20 := sh_N h 202 (by decide) rfl
theorem shT_203 {m : Mm} (h : Sh m) : gT m 203 = 7 := sh_T h 203 (by decide) rfl
theorem shT_204 {m : Mm} (h : Sh m) : gT m 204 = 21 := sh_T h 204 (by decide) rfl
theorem shN_204 {m : Mm} (h : Sh m) : gN m 204 = 361 := sh_N h 204 (by decide) rfl
theorem shT_205 {m : Mm} (h : Sh m) : gT m 205 = 4 := sh_T h 205 (by decide) rfl
theorem shT_206 {m : Mm} (h : Sh m) : gT m 206 = 20 := sh_T h 206 (by decide) rfl
theorem shN_206 {m : Mm} (h : Sh m) : gN m 206 = 200 := sh_N h 206 (by decide) rfl
theorem shT_207 {m : Mm} (h : Sh m) : gT m 207 = 20 := sh_T h 207 (by decide) rfl
theorem shN_207 {m : Mm} (h : Sh m) : gN m 207 = 200 := sh_N h 207 (by decide) rfl
theorem shT_208 {m : Mm} (h : Sh m) : gT m 208 = 20 := sh_T h 208 (by decide) rfl
theorem shN_208 {m : Mm} (h : Sh m) : gN m 208 = 14 := sh_N h 208 (by decide) rfl
theorem shT_209 {m : Mm} (h : Sh m) : gT m 209 = 20 := sh_T h 209 (by decide) rfl
theorem shN_209 {m : Mm} (h : Sh m) : gN m 209 = 14 := sh_N h 209 (by decide) rfl
theorem shT_210 {m : Mm} (h : Sh m) : gT m 210 = 20 := sh_T h 210 (by decide) rfl
theorem shN_210 {m : Mm} (h : Sh m) : gN m 210 = 14 := sh_N h 210 (by decide) rfl
theorem shT_211 {m : Mm} (h : Sh m) : gT m 211 = 20 := sh_T h 211 (by decide) rfl
theorem shN_211 {m : Mm} (h : Sh m) : gN m 211 = 14 := sh_N h 211 (by decide) rfl
theorem shT_212 {m : Mm} (h : Sh m) : gT m 212 = 20 := sh_T h 212 (by decide) rfl
theorem shN_212 {m : Mm} (h : Sh m) : gN m 212 = 10 := sh_N h 212 (by decide) rfl
theorem shT_213 {m : Mm} (h : Sh m) : gT m 213 = 20 := sh_T h 213 (by decide) rfl
theorem shN_213 {m : Mm} (h : Sh m) : gN m 213 = 10 := sh_N h 213 (by decide) rfl
theorem shT_214 {m : Mm} (h : Sh m) : gT m 214 = 20 := sh_T h 214 (by decide) rfl
theorem shN_214 {m : Mm} (h : Sh m) : gN m 214 = 32 := sh_N h 214 (by decide) rfl
theorem shT_215 {m : Mm} (h : Sh m) : gT m 215 = 4 := sh_T h 215 (by decide) rfl
theorem shT_216 {m : Mm} (h : Sh m) : gT m 216 = 20 := sh_T h 216 (by decide) rfl
theorem shN_216 {m : Mm} (h : Sh m) : gN m 216 = 200 := sh_N h 216 (by decide) rfl
theorem shT_217 {m : Mm} (h : Sh m) : gT m 217 = 20 := sh_T h 217 (by decide) rfl
theorem shN_217 {m : Mm} (h : Sh m) : gN m 217 = 200 := sh_N h 217 (by decide) rfl
theorem shT_218 {m : Mm} (h : Sh m) : gT m 218 = 20 := sh_T h 218 (by decide) rfl
theorem shN_218 {m : Mm} (h : Sh m) : gN m 218 = 14 := sh_N h 218 (by decide) rfl
theorem shT_219 {m : Mm} (h : Sh m) : gT m 219 = 20 := sh_T h 219 (by decide) rfl
theorem shN_219 {m : Mm} (h : Sh m) : gN m 219 = 14 := sh_N h 219 (by decide) rfl
theorem shT_220 {m : Mm} (h : Sh m) : gT m 220 = 20 := sh_T h 220 (by decide) rfl
theorem shN_220 {m : Mm} (h : Sh m) : gN m 220 = 14 := sh_N h 220 (by decide) rfl
theorem shT_221 {m : Mm} (h : Sh m) : gT m 221 = 20 := sh_T h 221 (by decide) rfl
theorem shN_221 {m : Mm} (h : Sh m) : gN m 221 = 14 := sh_N h 221 (by decide) rfl
theorem shT_222 {m : Mm} (h : Sh m) : gT m 222 = 20 := sh_T h 222 (by decide) rfl
theorem shN_222 {m : Mm} (h : Sh m) : gN m 222 = 10 := sh_N h 222 (by decide) rfl
theorem shT_223 {m : Mm} (h : Sh m) : gT m 223 = 20 := sh_T h 223 (by decide) rfl
theorem shN_223 {m : Mm} (h : Sh m) : gN m 223 = 10 := sh_N h 223 (by decide) rfl
theorem shT_224 {m : Mm} (h : Sh m) : gT m 224 = 20 := sh_T h 224 (by decide) rfl
theorem shN_224 {m : Mm} (h : Sh m) : gN m 224 = 32 := sh_N h 224 (by decide) rfl
theorem shT_225 {m : Mm} (h : Sh m) : gT m 225 = 12 := sh_T h 225 (by decide) rfl
theorem shT_226 {m : Mm} (h : Sh m) : gT m 226 = 23 := sh_T h 226 (by decide) rfl
theorem shN_226 {m : Mm} (h : Sh m) : gN m 226 = 220 := sh_N h 226 (by decide) rfl
theorem shT_227 {m : Mm} (h : Sh m) : gT m 227 = 20 := sh_T h 227 (by decide) rfl
theorem shN_227 {m : Mm} (h : Sh m) : gN m 227 = 12 := sh_N h 227 (by decide) rfl
theorem shT_228 {m : Mm} (h : Sh m) : gT m 228 = 20 := sh_T h 228 (by decide) rfl
theorem shN_228 {m : Mm} (h : Sh m) : gN m 228 = 12 := sh_N h 228 (by decide) rfl
theorem shT_229 {m : Mm} (h : Sh m) : gT m 229 = 20 := sh_T h 229 (by decide) rfl
theorem shN_229 {m : Mm} (h : Sh m) : gN m 229 = 12 := sh_N h 229 (by decide) rfl
theorem shT_230 {m : Mm} (h : Sh m) : gT m 230 = 20 := sh_T h 230 (by decide) rfl
theorem shN_230 {m : Mm} (h : Sh m) : gN m 230 = 12 := sh_N h 230 (by decide) rfl
theorem shT_231 {m : Mm} (h : Sh m) : gT m 231 = 20 := sh_T h 231 (by decide) rfl
theorem shN_231 {m : Mm} (h : Sh m) : gN m 231 = 12 := sh_N h 231 (by decide) rfl
theorem shT_232 {m : Mm} (h : Sh m) : gT m 232 = 20 := sh_T h 232 (by decide) rfl
theorem shN_232 {m : Mm} (h : Sh m) : gN m 232 = 12 := sh_N h 232 (by decide) rfl
theorem shT_233 {m : Mm} (h : Sh m) : gT m 233 = 22 := sh_T h 233 (by decide) rfl
theorem shN_233 {m : Mm} (h : Sh m) : gN m 233 = 12 := sh_N h 233 (by decide) rfl
theorem shT_234 {m : Mm} (h : Sh m) : gT m 234 = 20 := sh_T h 234 (by decide) rfl
theorem shN_234 {m : Mm} (h : Sh m) : gN m 234 = 16 := sh_N h 234 (by decide) rfl
theorem shT_235 {m : Mm} (h : Sh m) : gT m 235 = 20 := sh_T h 235 (by decide) rfl
theorem shN_235 {m : Mm} (h : Sh m) : gN m 235 = 16 := sh_N h 235 (by decide) rfl
theorem shT_236 {m : Mm} (h : Sh m) : gT m 236 = 20 := sh_T h 236 (by decide) rfl
theorem shN_236 {m : Mm} (h : Sh m) : gN m 236 = 16 := sh_N h 236 (by decide) rfl
theorem shT_237 {m : Mm} (h : Sh m) : gT m 237 = 20 := sh_T h 237 (by decide) rfl
theorem shN_237 {m : Mm} (h : Sh m) : gN m 237 = 16 := sh_N h 237 (by decide) rfl
theorem shT_238 {m : Mm} (h : Sh m) : gT m 238 = 20 := sh_T h 238 (by decide) rfl
theorem shN_238 {m : Mm} (h : Sh m) : gN m 238 = 80 := sh_N h 238 (by decide) rfl
theorem shT_239 {m : Mm} (h : Sh m) : gT m 239 = 20 := sh_T h 239 (by decide) rfl
theorem shN_239 {m : Mm} (h : Sh m) : gN m 239 = 5 := sh_N h 239 (by decide) rfl
theorem shT_240 {m : Mm} (h : Sh m) : gT m 240 = 20 := sh_T h 240 (by decide) rfl
theorem shN_240 {m : Mm} (h : Sh m) : gN m 240 = 192 := sh_N h 240 (by decide) rfl
theorem shT_241 {m : Mm} (h : Sh m) : gT m 241 = 20 := sh_T h 241 (by decide) rfl
theorem shN_241 {m : Mm} (h : Sh m) : gN m 241 = 14 := sh_N h 241 (by decide) rfl
theorem shT_242 {m : Mm} (h : Sh m) : gT m 242 = 20 := sh_T h 242 (by decide) rfl
theorem shN_242 {m : Mm} (h : Sh m) : gN m 242 = 14 := sh_N h 242 (by decide) rfl
theorem shT_243 {m : Mm} (h : Sh m) : gT m 243 = 20 := sh_T h 243 (by decide) rfl
theorem shN_243 {m : Mm} (h : Sh m) : gN m 243 = 14 := sh_N h 243 (by decide) rfl
theorem shT_244 {m : Mm} (h : Sh m) : gT m 244 = 20 := sh_T h 244 (by decide) rfl
theorem shN_244 {m : Mm} (h : Sh m) : gN m 244 = 14 := sh_N h 244 (by decide) rfl
theorem shT_245 {m : Mm} (h : Sh m) : gT m 245 = 20 := sh_T h 245 (by decide) rfl
theorem shN_245 {m : Mm} (h : Sh m) : gN m 245 = 200 := sh_N h 245 (by decide) rfl
theorem shT_246 {m : Mm} (h : Sh m) : gT m 246 = 20 := sh_T h 246 (by decide) rfl
theorem shN_246 {m : Mm} (h : Sh m) : gN m 246 = 200 := sh_N h 246 (by decide) rfl
theorem shT_247 {m : Mm} (h : Sh m) : gT m 247 = 20 := sh_T h 247 (by decide) rfl
theorem shN_247 {m : Mm} (h : Sh m) : gN m 247 = 14 := sh_N h 247 (by decide) rfl
theorem shT_248 {m : Mm} (h : Sh m) : gT m 248 = 20 := sh_T h 248 (by decide) rfl
theorem shN_248 {m : Mm} (h : Sh m) : gN m 248 = 14 := sh_N h 248 (by decide) rfl
theorem shT_249 {m : Mm} (h : Sh m) : gT m 249 = 20 := sh_T h 249 (by decide) rfl
theorem shN_249 {m : Mm} (h : Sh m) : gN m 249 = 14 := sh_N h 249 (by decide) rfl
theorem shT_250 {m : Mm} (h : Sh m) : gT m 250 = 20 := sh_T h 250 (by decide) rfl
theorem shN_250 {m : Mm} (h : Sh m) : gN m 250 = 14 := sh_N h 250 (by decide) rfl
theorem shT_251 {m : Mm} (h : Sh m) : gT m 251 = 20 := sh_T h 251 (by decide) rfl
theorem shN_251 {m : Mm} (h : Sh m) : gN m 251 = 200 := sh_N h 251 (by decide) rfl
theorem shT_252 {m : Mm} (h : Sh m) : gT m 252 = 20 := sh_T h 252 (by decide) rfl
theorem shN_252 {m : Mm} (h : Sh m) : gN m 252 = 200 := sh_N h 252 (by decide) rfl
theorem shT_253 {m : Mm} (h : Sh m) : gT m 253 = 20 := sh_T h 253 (by decide) rfl
theorem shN_253 {m : Mm} (h : Sh m) : gN m 253 = 240 := sh_N h 253 (by decide) rfl
theorem shT_254 {m : Mm} (h : Sh m) : gT m 254 = 20 := sh_T h 254 (by decide) rfl
theorem shN_254 {m : Mm} (h : Sh m) : gN m 254 = 240 := sh_N h 254 (by decide) rfl
theorem shT_255 {m : Mm} (h : Sh m) : gT m 255 = 22 := sh_T h 255 (by decide) rfl
theorem shN_255 {m : Mm} (h : Sh m) : gN m 255 = 240 := sh_N h 255 (by decide) rfl
theorem shT_256 {m : Mm} (h : Sh m) : gT m 256 = 20 := sh_T h 256 (by decide) rfl
theorem shN_256 {m : Mm} (h : Sh m) : gN m 256 = 16 := sh_N h 256 (by decide) rfl
theorem shT_257 {m : Mm} (h : Sh m) : gT m 257 = 20 := sh_T h 257 (by decide) rfl
theorem shN_257 {m : Mm} (h : Sh m) : gN m 257 = 24 := sh_N h 257 (by decide) rfl
theorem shT_258 {m : Mm} (h : Sh m) : gT m 258 = 20 := sh_T h 258 (by decide) rfl
theorem shN_258 {m : Mm} (h : Sh m) : gN m 258 = 24 := sh_N h 258 (by decide) rfl
theorem shT_259 {m : Mm} (h : Sh m) : gT m 259 = 20 := sh_T h 259 (by decide) rfl
theorem shN_259 {m : Mm} (h : Sh m) : gN m 259 = 24 := sh_N h 259 (by decide) rfl
theorem shT_260 {m : Mm} (h : Sh m) : gT m 260 = 20 := sh_T h 260 (by decide) rfl
theorem shN_260 {m : Mm} (h : Sh m) : gN m 260 = 24 := sh_N h 260 (by decide) rfl
theorem shT_261 {m : Mm} (h : Sh m) : gT m 261 = 20 := sh_T h 261 (by decide) rfl
theorem shN_261 {m : Mm} (h : Sh m) : gN m 261 = 24 := sh_N h 261 (by decide) rfl
theorem shT_262 {m : Mm} (h : Sh m) : gT m 262 = 20 := sh_T h 262 (by decide) rfl
theorem shN_262 {m : Mm} (h : Sh m) : gN m 262 = 24 := sh_N h 262 (by decide) rfl
theorem shT_263 {m : Mm} (h : Sh m) : gT m 263 = 22 := sh_T h 263 (by decide) rfl
theorem shN_263 {m : Mm} (h : Sh m) : gN m 263 = 24 := sh_N h 263 (by decide) rfl
theorem shT_264 {m : Mm} (h : Sh m) : gT m 264 = 20 := sh_T h 264 (by decide) rfl
theorem shN_264 {m : Mm} (h : Sh m) : gN m 264 = 32 := sh_N h 264 (by decide) rfl
theorem shT_265 {m : Mm} (h : Sh m) : gT m 265 = 20 := sh_T h 265 (by decide) rfl
theorem shN_265 {m : Mm} (h : Sh m) : gN m 265 = 32 := sh_N h 265 (by decide) rfl
theorem shT_266 {m : Mm} (h : Sh m) : gT m 266 = 20 := sh_T h 266 (by decide) rfl
theorem shN_266 {m : Mm} (h : Sh m) : gN m 266 = 32 := sh_N h 266 (by decide) rfl
theorem shT_267 {m : Mm} (h : Sh m) : gT m 267 = 20 := sh_T h 267 (by decide) rfl
theorem shN_267 {m : Mm} (h : Sh m) : gN m 267 = 32 := sh_N h 267 (by decide) rfl
theorem shT_268 {m : Mm} (h : Sh m) : gT m 268 = 20 := sh_T h 268 (by decide) rfl
theorem shN_268 {m : Mm} (h : Sh m) : gN m 268 = 160 := sh_N h 268 (by decide) rfl
theorem shT_269 {m : Mm} (h : Sh m) : gT m 269 = 20 := sh_T h 269 (by decide) rfl
theorem shN_269 {m : Mm} (h : Sh m) : gN m 269 = 10 := sh_N h 269 (by decide) rfl
theorem shT_270 {m : Mm} (h : Sh m) : gT m 270 = 20 := sh_T h 270 (by decide) rfl
theorem shN_270 {m : Mm} (h : Sh m) : gN m 270 = 384 := sh_N h 270 (by decide) rfl
theorem shT_271 {m : Mm} (h : Sh m) : gT m 271 = 20 := sh_T h 271 (by decide) rfl
theorem shN_271 {m : Mm} (h : Sh m) : gN m 271 = 12 := sh_N h 271 (by decide) rfl
theorem shT_272 {m : Mm} (h : Sh m) : gT m 272 = 20 := sh_T h 272 (by decide) rfl
theorem shN_272 {m : Mm} (h : Sh m) : gN m 272 = 5 := sh_N h 272 (by decide) rfl
theorem shT_273 {m : Mm} (h : Sh m) : gT m 273 = 20 := sh_T h 273 (by decide) rfl
theorem shN_273 {m : Mm} (h : Sh m) : gN m 273 = 4 := sh_N h 273 (by decide) rfl
theorem shT_274 {m : Mm} (h : Sh m) : gT m 274 = 20 := sh_T h 274 (by decide) rfl
theorem shN_274 {m : Mm} (h : Sh m) : gN m 274 = 65536 := sh_N h 274 (by decide) rfl
theorem shT_275 {m : Mm} (h : Sh m) : gT m 275 = 20 := sh_T h 275 (by decide) rfl
theorem shN_275 {m : Mm} (h : Sh m) : gN m 275 = 5 := sh_N h 275 (by decide) rfl
theorem shT_276 {m : Mm} (h : Sh m) : gT m 276 = 21 := sh_T h 276 (by decide) rfl
theorem shN_276 {m : Mm} (h : Sh m) : gN m 276 = 501 := sh_N h 276 (by decide) rfl
theorem shT_277 {m : Mm} (h : Sh m) : gT m 277 = 21 := sh_T h 277 (by decide) rfl
theorem shN_277 {m : Mm} (h : Sh m) : gN m 277 = 501 := sh_N h 277 (by decide) rfl
theorem shT_278 {m : Mm} (h : Sh m) : gT m 278 = 20 := sh_T h 278 (by decide) rfl
theorem shN_278 {m : Mm} (h : Sh m) : gN m 278 = 30 := sh_N h 278 (by decide) rfl
theorem shT_279 {m : Mm} (h : Sh m) : gT m 279 = 20 := sh_T h 279 (by decide) rfl
theorem shN_279 {m : Mm} (h : Sh m) : gN m 279 = 30 := sh_N h 279 (by decide) rfl
theorem shT_280 {m : Mm} (h : Sh m) : gT m 280 = 20 := sh_T h 280 (by decide) rfl
theorem shN_280 {m : Mm} (h : Sh m) : gN m 280 = 30 := sh_N h 280 (by decide) rfl
theorem shR_1_0 {m : Mm} (h : Sh m) : gR m 1 0 = 2 := sh_R h 0 rfl
theorem shR_1_1 {m : Mm} (h : Sh m) : gR m 1 1 = 65 := sh_R h 1 rfl
theorem shR_1_2 {m : Mm} (h : Sh m) : gR m 1 2 = 128 := sh_R h 2 rfl
theorem shR_1_3 {m : Mm} (h : Sh m) : gR m 1 3 = 191 := sh_R h 3 rfl
theorem shR_1_4 {m : Mm} (h : Sh m) : gR m 1 4 = 193 := sh_R h 4 rfl
theorem shR_1_5 {m : Mm} (h : Sh m) : gR m 1 5 = 194 := sh_R h 5 rfl
theorem shR_1_6 {m : Mm} (h : Sh m) : gR m 1 6 = 197 := sh_R h 6 rfl
theorem shR_1_7 {m : Mm} (h : Sh m) : gR m 1 7 = 201 := sh_R h 7 rfl
theorem shR_1_8 {m : Mm} (h : Sh m) : gR m 1 8 = 203 := sh_R h 8 rfl
theorem shR_2_0 {m : Mm} (h : Sh m) : gR m 2 0 = 3 := sh_R h 9 rfl
theorem shR_2_1 {m : Mm} (h : Sh m) : gR m 2 1 = 4 := sh_R h 10 rfl
theorem shR_2_2 {m : Mm} (h : Sh m) : gR m 2 2 = 5 := sh_R h 11 rfl
theorem shR_2_3 {m : Mm} (h : Sh m) : gR m 2 3 = 6 := sh_R h 12 rfl
theorem shR_2_4 {m : Mm} (h : Sh m) : gR m 2 4 = 7 := sh_R h 13 rfl
theorem shR_2_5 {m : Mm} (h : Sh m) : gR m 2 5 = 8 := sh_R h 14 rfl
theorem shR_3_0 {m : Mm} (h : Sh m) : gR m 3 0 = 9 := sh_R h 15 rfl
theorem shR_3_1 {m : Mm} (h : Sh m) : gR m 3 1 = 11 := sh_R h 16 rfl
theorem shR_3_2 {m : Mm} (h : Sh m) : gR m 3 2 = 13 := sh_R h 17 rfl
theorem shR_3_3 {m : Mm} (h : Sh m) : gR m 3 3 = 15 := sh_R h 18 rfl
theorem shR_3_4 {m : Mm} (h : Sh m) : gR m 3 4 = 17 := sh_R h 19 rfl
theorem shR_3_5 {m : Mm} (h : Sh m) : gR m 3 5 = 19 := sh_R h 20 rfl
theorem shR_3_6 {m : Mm} (h : Sh m) : gR m 3 6 = 21 := sh_R h 21 rfl
theorem shR_3_7 {m : Mm} (h : Sh m) : gR m 3 7 = 23 := sh_R h 22 rfl
theorem shR_3_8 {m : Mm} (h : Sh m) : gR m 3 8 = 25 := sh_R h 23 rfl
theorem shR_3_9 {m : Mm} (h : Sh m) : gR m 3 9 = 27 := sh_R h 24 rfl
theorem shR_3_10 {m : Mm} (h : Sh m) : gR m 3 10 = 29 := sh_R h 25 rfl
theorem shR_3_11 {m : Mm} (h : Sh m) : gR m 3 11 = 31 := sh_R h 26 rfl
theorem shR_4_0 {m : Mm} (h : Sh m) : gR m 4 0 = 33 := sh_R h 27 rfl
theorem shR_4_1 {m : Mm} (h : Sh m) : gR m 4 1 = 35 := sh_R h 28 rfl
theorem shR_4_2 {m : Mm} (h : Sh m) : gR m 4 2 = 37 := sh_R h 29 rfl
theorem shR_4_3 {m : Mm} (h : Sh m) : gR m 4 3 = 39 := sh_R h 30 rfl
theorem shR_4_4 {m : Mm} (h : Sh m) : gR m 4 4 = 41 := sh_R h 31 rfl
theorem shR_4_5 {m : Mm} (h : Sh m) : gR m 4 5 = 43 := sh_R h 32 rfl
theorem shR_4_6 {m : Mm} (h : Sh m) : gR m 4 6 = 45 := sh_R h 33 rfl
theorem shR_4_7 {m : Mm} (h : Sh m) : gR m 4 7 = 47 := sh_R h 34 rfl
theorem shR_4_8 {m : Mm} (h : Sh m) : gR m 4 8 = 49 := sh_R h 35 rfl
theorem shR_4_9 {m : Mm} (h : Sh m) : gR m 4 9 = 51 := sh_R h 36 rfl
theorem shR_4_10 {m : Mm} (h : Sh m) : gR m 4 10 = 53 := sh_R h 37 rfl
theorem shR_4_11 {m : Mm} (h : Sh m) : gR m 4 11 = 55 := sh_R h 38 rfl
theorem shR_4_12 {m : Mm} (h : Sh m) : gR m 4 12 = 57 := sh_R h 39 rfl
theorem shR_4_13 {m : Mm} (h : Sh m) : gR m 4 13 = 59 := sh_R h 40 rfl
theorem shR_4_14 {m : Mm} (h : Sh m) : gR m 4 14 = 61 := sh_R h 41 rfl
theorem shR_4_15 {m : Mm} (h : Sh m) : gR m 4 15 = 63 := sh_R h 42 rfl
theorem shR_9_8 {m : Mm} (h : Sh m) : gR m 9 8 = 10 := sh_R h 43 rfl
theorem shR_11_8 {m : Mm} (h : Sh m) : gR m 11 8 = 12 := sh_R h 44 rfl
theorem shR_13_8 {m : Mm} (h : Sh m) : gR m 13 8 = 14 := sh_R h 45 rfl
theorem shR_15_8 {m : Mm} (h : Sh m) : gR m 15 8 = 16 := sh_R h 46 rfl
theorem shR_17_8 {m : Mm} (h : Sh m) : gR m 17 8 = 18 := sh_R h 47 rfl
theorem shR_19_8 {m : Mm} (h : Sh m) : gR m 19 8 = 20 := sh_R h 48 rfl
theorem shR_21_8 {m : Mm} (h : Sh m) : gR m 21 8 = 22 := sh_R h 49 rfl
theorem shR_23_8 {m : Mm} (h : Sh m) : gR m 23 8 = 24 := sh_R h 50 rfl
theorem shR_25_8 {m : Mm} (h : Sh m) : gR m 25 8 = 26 := sh_R h 51 rfl
theorem shR_27_8 {m : Mm} (h : Sh m) : gR m 27 8 = 28 := sh_R h 52 rfl
theorem shR_29_8 {m : Mm} (h : Sh m) : gR m 29 8 = 30 := sh_R h 53 rfl
theorem shR_31_8 {m : Mm} (h : Sh m) : gR m 31 8 = 32 := sh_R h 54 rfl
theorem shR_33_5 {m : Mm} (h : Sh m) : gR m 33 5 = 34 := sh_R h 55 rfl
theorem shR_35_5 {m : Mm} (h : Sh m) : gR m 35 5 = 36 := sh_R h 56 rfl
theorem shR_37_5 {m : Mm} (h : Sh m) : gR m 37 5 = 38 := sh_R h 57 rfl
theorem shR_39_5 {m : Mm} (h : Sh m) : gR m 39 5 = 40 := sh_R h 58 rfl
theorem shR_41_5 {m : Mm} (h : Sh m) : gR m 41 5 = 42 := sh_R h 59 rfl
theorem shR_43_5 {m : Mm} (h : Sh m) : gR m 43 5 = 44 := sh_R h 60 rfl
theorem shR_45_5 {m : Mm} (h : Sh m) : gR m 45 5 = 46 := sh_R h 61 rfl
theorem shR_47_5 {m : Mm} (h : Sh m) : gR m 47 5 = 48 := sh_R h 62 rfl
theorem shR_49_5 {m : Mm} (h : Sh m) : gR m 49 5 = 50 := sh_R h 63 rfl
theorem shR_51_5 {m : Mm} (h : Sh m) : gR m 51 5 = 52 := sh_R h 64 rfl
theorem shR_53_5 {m : Mm} (h : Sh m) : gR m 53 5 = 54 := sh_R h 65 rfl
theorem shR_55_5 {m : Mm} (h : Sh m) : gR m 55 5 = 56 := sh_R h 66 rfl
theorem shR_57_5 {m : Mm} (h : Sh m) : gR m 57 5 = 58 := sh_R h 67 rfl
theorem shR_59_5 {m : Mm} (h : Sh m) : gR m 59 5 = 60 := sh_R h 68 rfl
theorem shR_61_5 {m : Mm} (h : Sh m) : gR m 61 5 = 62 := sh_R h 69 rfl
theorem shR_63_5 {m : Mm} (h : Sh m) : gR m 63 5 = 64 := sh_R h 70 rfl
theorem shR_65_0 {m : Mm} (h : Sh m) : gR m 65 0 = 66 := sh_R h 71 rfl
theorem shR_65_1 {m : Mm} (h : Sh m) : gR m 65 1 = 67 := sh_R h 72 rfl
theorem shR_65_2 {m : Mm} (h : Sh m) : gR m 65 2 = 68 := sh_R h 73 rfl
theorem shR_65_3 {m : Mm} (h : Sh m) : gR m 65 3 = 69 := sh_R h 74 rfl
theorem shR_65_4 {m : Mm} (h : Sh m) : gR m 65 4 = 70 := sh_R h 75 rfl
theorem shR_65_5 {m : Mm} (h : Sh m) : gR m 65 5 = 71 := sh_R h 76 rfl
theorem shR_66_0 {m : Mm} (h : Sh m) : gR m 66 0 = 72 := sh_R h 77 rfl
theorem shR_66_1 {m : Mm} (h : Sh m) : gR m 66 1 = 74 := sh_R h 78 rfl
theorem shR_66_2 {m : Mm} (h : Sh m) : gR m 66 2 = 76 := sh_R h 79 rfl
theorem shR_66_3 {m : Mm} (h : Sh m) : gR m 66 3 = 78 := sh_R h 80 rfl
theorem shR_66_4 {m : Mm} (h : Sh m) : gR m 66 4 = 80 := sh_R h 81 rfl
theorem shR_66_5 {m : Mm} (h : Sh m) : gR m 66 5 = 82 := sh_R h 82 rfl
theorem shR_66_6 {m : Mm} (h : Sh m) : gR m 66 6 = 84 := sh_R h 83 rfl
theorem shR_66_7 {m : Mm} (h : Sh m) : gR m 66 7 = 86 := sh_R h 84 rfl
theorem shR_66_8 {m : Mm} (h : Sh m) : gR m 66 8 = 88 := sh_R h 85 rfl
theorem shR_66_9 {m : Mm} (h : Sh m) : gR m 66 9 = 90 := sh_R h 86 rfl
theorem shR_66_10 {m : Mm} (h : Sh m) : gR m 66 10 = 92 := sh_R h 87 rfl
theorem shR_66_11 {m : Mm} (h : Sh m) : gR m 66 11 = 94 := sh_R h 88 rfl
theorem shR_67_0 {m : Mm} (h : Sh m) : gR m 67 0 = 96 := sh_R h 89 rfl
theorem shR_67_1 {m : Mm} (h : Sh m) : gR m 67 1 = 98 := sh_R h 90 rfl
theorem shR_67_2 {m : Mm} (h : Sh m) : gR m 67 2 = 100 := sh_R h 91 rfl
theorem shR_67_3 {m : Mm} (h : Sh m) : gR m 67 3 = 102 := sh_R h 92 rfl
theorem shR_67_4 {m : Mm} (h : Sh m) : gR m 67 4 = 104 := sh_R h 93 rfl
theorem shR_67_5 {m : Mm} (h : Sh m) : gR m 67 5 = 106 := sh_R h 94 rfl
theorem shR_67_6 {m : Mm} (h : Sh m) : gR m 67 6 = 108 := sh_R h 95 rfl
theorem shR_67_7 {m : Mm} (h : Sh m) : gR m 67 7 = 110 := sh_R h 96 rfl
theorem shR_67_8 {m : Mm} (h : Sh m) : gR m 67 8 = 112 := sh_R h 97 rfl
theorem shR_67_9 {m : Mm} (h : Sh m) : gR m 67 9 = 114 := sh_R h 98 rfl
theorem shR_67_10 {m : Mm} (h : Sh m) : gR m 67 10 = 116 := sh_R h 99 rfl
theorem shR_67_11 {m : Mm} (h : Sh m) : gR m 67 11 = 118 := sh_R h 100 rfl
theorem shR_67_12 {m : Mm} (h : Sh m) : gR m 67 12 = 120 := sh_R h 101 rfl
theorem shR_67_13 {m : Mm} (h : Sh m) : gR m 67 13 = 122 := sh_R h 102 rfl
theorem shR_67_14 {m : Mm} (h : Sh m) : gR m 67 14 = 124 := sh_R h 103 rfl
theorem shR_67_15 {m : Mm} (h : Sh m) : gR m 67 15 = 126 := sh_R h 104 rfl
theorem shR_72_8 {m : Mm} (h : Sh m) : gR m 72 8 = 73 := sh_R h 105 rfl
theorem shR_74_8 {m : Mm} (h : Sh m) : gR m 74 8 = 75 := sh_R h 106 rfl
theorem shR_76_8 {m : Mm} (h : Sh m) : gR m 76 8 = 77 := sh_R h 107 rfl
theorem shR_78_8 {m : Mm} (h : Sh m) : gR m 78 8 = 79 := sh_R h 108 rfl
theorem shR_80_8 {m : Mm} (h : Sh m) : gR m 80 8 = 81 := sh_R h 109 rfl
theorem shR_82_8 {m : Mm} (h : Sh m) : gR m 82 8 = 83 := sh_R h 110 rfl
theorem shR_84_8 {m : Mm} (h : Sh m) : gR m 84 8 = 85 := sh_R h 111 rfl
theorem shR_86_8 {m : Mm} (h : Sh m) : gR m 86 8 = 87 := sh_R h 112 rfl
theorem shR_88_8 {m : Mm} (h : Sh m) : gR m 88 8 = 89 := sh_R h 113 rfl
theorem shR_90_8 {m : Mm} (h : Sh m) : gR m 90 8 = 91 := sh_R h 114 rfl
theorem shR_92_8 {m : Mm} (h : Sh m) : gR m 92 8 = 93 := sh_R h 115 rfl
theorem shR_94_8 {m : Mm} (h : Sh m) : gR m 94 8 = 95 := sh_R h 116 rfl
theorem shR_96_5 {m : Mm} (h : Sh m) : gR m 96 5 = 97 := sh_R h 117 rfl
theorem shR_98_5 {m : Mm} (h : Sh m) : gR m 98 5 = 99 := sh_R h 118 rfl
theorem shR_100_5 {m : Mm} (h : Sh m) : gR m 100 5 = 101 := sh_R h 119 rfl
theorem shR_102_5 {m : Mm} (h : Sh m) : gR m 102 5 = 103 := sh_R h 120 rfl
theorem shR_104_5 {m : Mm} (h : Sh m) : gR m 104 5 = 105 := sh_R h 121 rfl
theorem shR_106_5 {m : Mm} (h : Sh m) : gR m 106 5 = 107 := sh_R h 122 rfl
theorem shR_108_5 {m : Mm} (h : Sh m) : gR m 108 5 = 109 := sh_R h 123 rfl
theorem shR_110_5 {m : Mm} (h : Sh m) : gR m 110 5 = 111 := sh_R h 124 rfl
theorem shR_112_5 {m : Mm} (h : Sh m) : gR m 112 5 = 113 := sh_R h 125 rfl
theorem shR_114_5 {m : Mm} (h : Sh m) : gR m 114 5 = 115 := sh_R h 126 rfl
theorem shR_116_5 {m : Mm} (h : Sh m) : gR m 116 5 = 117 := sh_R h 127 rfl
theorem shR_118_5 {m : Mm} (h : Sh m) : gR m 118 5 = 119 := sh_R h 128 rfl
theorem shR_120_5 {m : Mm} (h : Sh m) : gR m 120 5 = 121 := sh_R h 129 rfl
theorem shR_122_5 {m : Mm} (h : Sh m) : gR m 122 5 = 123 := sh_R h 130 rfl
theorem shR_124_5 {m : Mm} (h : Sh m) : gR m 124 5 = 125 := sh_R h 131 rfl
theorem shR_126_5 {m : Mm} (h : Sh m) : gR m 126 5 = 127 := sh_R h 132 rfl
theorem shR_128_0 {m : Mm} (h : Sh m) : gR m 128 0 = 129 := sh_R h 133 rfl
theorem shR_128_1 {m : Mm} (h : Sh m) : gR m 128 1 = 130 := sh_R h 134 rfl
theorem shR_128_2 {m : Mm} (h : Sh m) : gR m 128 2 = 131 := sh_R h 135 rfl
theorem shR_128_3 {m : Mm} (h : Sh m) : gR m 128 3 = 132 := sh_R h 136 rfl
theorem shR_128_4 {m : Mm} (h : Sh m) : gR m 128 4 = 133 := sh_R h 137 rfl
theorem shR_128_5 {m : Mm} (h : Sh m) : gR m 128 5 = 134 := sh_R h 138 rfl
theorem shR_129_0 {m : Mm} (h : Sh m) : gR m 129 0 = 135 := sh_R h 139 rfl
theorem shR_129_1 {m : Mm} (h : Sh m) : gR m 129 1 = 137 := sh_R h 140 rfl
theorem shR_129_2 {m : Mm} (h : Sh m) : gR m 129 2 = 139 := sh_R h 141 rfl
theorem shR_129_3 {m : Mm} (h : Sh m) : gR m 129 3 = 141 := sh_R h 142 rfl
theorem shR_129_4 {m : Mm} (h : Sh m) : gR m 129 4 = 143 := sh_R h 143 rfl
theorem shR_129_5 {m : Mm} (h : Sh m) : gR m 129 5 = 145 := sh_R h 144 rfl
theorem shR_129_6 {m : Mm} (h : Sh m) : gR m 129 6 = 147 := sh_R h 145 rfl
theorem shR_129_7 {m : Mm} (h : Sh m) : gR m 129 7 = 149 := sh_R h 146 rfl
theorem shR_129_8 {m : Mm} (h : Sh m) : gR m 129 8 = 151 := sh_R h 147 rfl
theorem shR_129_9 {m : Mm} (h : Sh m) : gR m 129 9 = 153 := sh_R h 148 rfl
theorem shR_129_10 {m : Mm} (h : Sh m) : gR m 129 10 = 155 := sh_R h 149 rfl
theorem shR_129_11 {m : Mm} (h : Sh m) : gR m 129 11 = 157 := sh_R h 150 rfl
theorem shR_130_0 {m : Mm} (h : Sh m) : gR m 130 0 = 159 := sh_R h 151 rfl
theorem shR_130_1 {m : Mm} (h : Sh m) : gR m 130 1 = 161 := sh_R h 152 rfl
theorem shR_130_2 {m : Mm} (h : Sh m) : gR m 130 2 = 163 := sh_R h 153 rfl
theorem shR_130_3 {m : Mm} (h : Sh m) : gR m 130 3 = 165 := sh_R h 154 rfl
theorem shR_130_4 {m : Mm} (h : Sh m) : gR m 130 4 = 167 := sh_R h 155 rfl
theorem shR_130_5 {m : Mm} (h : Sh m) : gR m 130 5 = 169 := sh_R h 156 rfl
theorem shR_130_6 {m : Mm} (h : Sh m) : gR m 130 6 = 171 := sh_R h 157 rfl
theorem shR_130_7 {m : Mm} (h : Sh m) : gR m 130 7 = 173 := sh_R h 158 rfl
theorem shR_130_8 {m : Mm} (h : Sh m) : gR m 130 8 = 175 := sh_R h 159 rfl
theorem shR_130_9 {m : Mm} (h : Sh m) : gR m 130 9 = 177 := sh_R h 160 rfl
theorem shR_130_10 {m : Mm} (h : Sh m) : gR m 130 10 = 179 := sh_R h 161 rfl
theorem shR_130_11 {m : Mm} (h : Sh m) : gR m 130 11 = 181 := sh_R h 162 rfl
theorem shR_130_12 {m : Mm} (h : Sh m) : gR m 130 12 = 183 := sh_R h 163 rfl
theorem shR_130_13 {m : Mm} (h : Sh m) : gR m 130 13 = 185 := sh_R h 164 rfl
theorem shR_130_14 {m : Mm} (h : Sh m) : gR m 130 14 = 187 := sh_R h 165 rfl
theorem shR_130_15 {m : Mm} (h : Sh m) : gR m 130 15 = 189 := sh_R h 166 rfl
theorem shR_135_8 {m : Mm} (h : Sh m) : gR m 135 8 = 136 := sh_R h 167 rfl
theorem shR_137_8 {m : Mm} (h : Sh m) : gR m 137 8 = 138 := sh_R h 168 rfl
theorem shR_139_8 {m : Mm} (h : Sh m) : gR m 139 8 = 140 := sh_R h 169 rfl
theorem shR_141_8 {m : Mm} (h : Sh m) : gR m 141 8 = 142 := sh_R h 170 rfl
theorem shR_143_8 {m : Mm} (h : Sh m) : gR m 143 8 = 144 := sh_R h 171 rfl
theorem shR_145_8 {m : Mm} (h : Sh m) : gR m 145 8 = 146 := sh_R h 172 rfl
theorem shR_147_8 {m : Mm} (h : Sh m) : gR m 147 8 = 148 := sh_R h 173 rfl
theorem shR_149_8 {m : Mm} (h : Sh m) : gR m 149 8 = 150 := sh_R h 174 rfl
theorem shR_151_8 {m : Mm} (h : Sh m) : gR m 151 8 = 152 := sh_R h 175 rfl
theorem shR_153_8 {m : Mm} (h : Sh m) : gR m 153 8 = 154 := sh_R h 176 rfl
theorem shR_155_8 {m : Mm} (h : Sh m) : gR m 155 8 = 156 := sh_R h 177 rfl
theorem shR_157_8 {m : Mm} (h : Sh m) : gR m 157 8 = 158 := sh_R h 178 rfl
theorem shR_159_5 {m : Mm} (h : Sh m) : gR m 159 5 = 160 := sh_R h 179 rfl
theorem shR_161_5 {m : Mm} (h : Sh m) : gR m 161 5 = 162 := sh_R h 180 rfl
theorem shR_163_5 {m : Mm} (h : Sh m) : gR m 163 5 = 164 := sh_R h 181 rfl
theorem shR_165_5 {m : Mm} (h : Sh m) : gR m 165 5 = 166 := sh_R h 182 rfl
theorem shR_167_5 {m : Mm} (h : Sh m) : gR m 167 5 = 168 := sh_R h 183 rfl
theorem shR_169_5 {m : Mm} (h : Sh m) : gR m 169 5 = 170 := sh_R h 184 rfl
theorem shR_171_5 {m : Mm} (h : Sh m) : gR m 171 5 = 172 := sh_R h 185 rfl
theorem shR_173_5 {m : Mm} (h : Sh m) : gR m 173 5 = 174 := sh_R h 186 rfl
theorem shR_175_5 {m : Mm} (h : Sh m) : gR m 175 5 = 176 := sh_R h 187 rfl
theorem shR_177_5 {m : Mm} (h : Sh m) : gR m 177 5 = 178 := sh_R h 188 rfl
theorem shR_179_5 {m : Mm} (h : Sh m) : gR m 179 5 = 180 := sh_R h 189 rfl
theorem shR_181_5 {m : Mm} (h : Sh m) : gR m 181 5 = 182 := sh_R h 190 rfl
theorem shR_183_5 {m : Mm} (h : Sh m) : gR m 183 5 = 184 := sh_R h 191 rfl
theorem shR_185_5 {m : Mm} (h : Sh m) : gR m 185 5 = 186 := sh_R h 192 rfl
theorem shR_187_5 {m : Mm} (h : Sh m) : gR m 187 5 = 188 := sh_R h 193 rfl
theorem shR_189_5 {m : Mm} (h : Sh m) : gR m 189 5 = 190 := sh_R h 194 rfl
theorem shR_191_0 {m : Mm} (h : Sh m) : gR m 191 0 = 192 := sh_R h 195 rfl
theorem shR_193_0 {m : Mm} (h : Sh m) : gR m 193 0 = 191 := sh_R h 196 rfl
theorem shR_194_0 {m : Mm} (h : Sh m) : gR m 194 0 = 195 := sh_R h 197 rfl
theorem shR_194_1 {m : Mm} (h : Sh m) : gR m 194 1 = 196 := sh_R h 198 rfl
theorem shR_194_2 {m : Mm} (h : Sh m) : gR m 194 2 = 128 := sh_R h 199 rfl
theorem shR_197_0 {m : Mm} (h : Sh m) : gR m 197 0 = 198 := sh_R h 200 rfl
theorem shR_197_1 {m : Mm} (h : Sh m) : gR m 197 1 = 199 := sh_R h 201 rfl
theorem shR_197_2 {m : Mm} (h : Sh m) : gR m 197 2 = 200 := sh_R h 202 rfl
theorem shR_197_3 {m : Mm} (h : Sh m) : gR m 197 3 = 128 := sh_R h 203 rfl
theorem shR_201_0 {m : Mm} (h : Sh m) : gR m 201 0 = 202 := sh_R h 204 rfl
theorem shR_203_0 {m : Mm} (h : Sh m) : gR m 203 0 = 204 := sh_R h 205 rfl
theorem shR_205_0 {m : Mm} (h : Sh m) : gR m 205 0 = 206 := sh_R h 206 rfl
theorem shR_205_1 {m : Mm} (h : Sh m) : gR m 205 1 = 207 := sh_R h 207 rfl
theorem shR_205_2 {m : Mm} (h : Sh m) : gR m 205 2 = 208 := sh_R h 208 rfl
theorem shR_205_3 {m : Mm} (h : Sh m) : gR m 205 3 = 209 := sh_R h 209 rfl
theorem shR_205_4 {m : Mm} (h : Sh m) : gR m 205 4 = 210 := sh_R h 210 rfl
theorem shR_205_5 {m : Mm} (h : Sh m) : gR m 205 5 = 211 := sh_R h 211 rfl
theorem shR_205_6 {m : Mm} (h : Sh m) : gR m 205 6 = 212 := sh_R h 212 rfl
theorem shR_205_7 {m : Mm} (h : Sh m) : gR m 205 7 = 213 := sh_R h 213 rfl
theorem shR_205_8 {m : Mm} (h : Sh m) : gR m 205 8 = 214 := sh_R h 214 rfl
theorem shR_215_0 {m : Mm} (h : Sh m) : gR m 215 0 = 216 := sh_R h 215 rfl
theorem shR_215_1 {m : Mm} (h : Sh m) : gR m 215 1 = 217 := sh_R h 216 rfl
theorem shR_215_2 {m : Mm} (h : Sh m) : gR m 215 2 = 218 := sh_R h 217 rfl
theorem shR_215_3 {m : Mm} (h : Sh m) : gR m 215 3 = 219 := sh_R h 218 rfl
theorem shR_215_4 {m : Mm} (h : Sh m) : gR m 215 4 = 220 := sh_R h 219 rfl
theorem shR_215_5 {m : Mm} (h : Sh m) : gR m 215 5 = 221 := sh_R h 220 rfl
theorem shR_215_6 {m : Mm} (h : Sh m) : gR m 215 6 = 222 := sh_R h 221 rfl
theorem shR_215_7 {m : Mm} (h : Sh m) : gR m 215 7 = 223 := sh_R h 222 rfl
theorem shR_215_8 {m : Mm} (h : Sh m) : gR m 215 8 = 224 := sh_R h 223 rfl
theorem shR_225_0 {m : Mm} (h : Sh m) : gR m 225 0 = 226 := sh_R h 224 rfl
theorem shR_225_8 {m : Mm} (h : Sh m) : gR m 225 8 = 227 := sh_R h 225 rfl
theorem shR_225_9 {m : Mm} (h : Sh m) : gR m 225 9 = 228 := sh_R h 226 rfl
theorem shR_225_10 {m : Mm} (h : Sh m) : gR m 225 10 = 229 := sh_R h 227 rfl
theorem shR_225_11 {m : Mm} (h : Sh m) : gR m 225 11 = 230 := sh_R h 228 rfl
theorem shR_225_12 {m : Mm} (h : Sh m) : gR m 225 12 = 231 := sh_R h 229 rfl
theorem shR_225_13 {m : Mm} (h : Sh m) : gR m 225 13 = 232 := sh_R h 230 rfl
theorem shR_225_14 {m : Mm} (h : Sh m) : gR m 225 14 = 233 := sh_R h 231 rfl
theorem shR_225_15 {m : Mm} (h : Sh m) : gR m 225 15 = 234 := sh_R h 232 rfl
theorem shR_225_16 {m : Mm} (h : Sh m) : gR m 225 16 = 235 := sh_R h 233 rfl
theorem shR_225_17 {m : Mm} (h : Sh m) : gR m 225 17 = 236 := sh_R h 234 rfl
theorem shR_225_18 {m : Mm} (h : Sh m) : gR m 225 18 = 237 := sh_R h 235 rfl
theorem shR_225_19 {m : Mm} (h : Sh m) : gR m 225 19 = 238 := sh_R h 236 rfl
theorem shR_225_20 {m : Mm} (h : Sh m) : gR m 225 20 = 239 := sh_R h 237 rfl
theorem shR_225_21 {m : Mm} (h : Sh m) : gR m 225 21 = 240 := sh_R h 238 rfl
theorem shR_225_23 {m : Mm} (h : Sh m) : gR m 225 23 = 241 := sh_R h 239 rfl
theorem shR_225_24 {m : Mm} (h : Sh m) : gR m 225 24 = 242 := sh_R h 240 rfl
theorem shR_225_25 {m : Mm} (h : Sh m) : gR m 225 25 = 243 := sh_R h 241 rfl
theorem shR_225_26 {m : Mm} (h : Sh m) : gR m 225 26 = 244 := sh_R h 242 rfl
theorem shR_225_27 {m : Mm} (h : Sh m) : gR m 225 27 = 245 := sh_R h 243 rfl
theorem shR_225_28 {m : Mm} (h : Sh m) : gR m 225 28 = 246 := sh_R h 244 rfl
theorem shR_225_29 {m : Mm} (h : Sh m) : gR m 225 29 = 247 := sh_R h 245 rfl
theorem shR_225_30 {m : Mm} (h : Sh m) : gR m 225 30 = 248 := sh_R h 246 rfl
theorem shR_225_31 {m : Mm} (h : Sh m) : gR m 225 31 = 249 := sh_R h 247 rfl
theorem shR_225_32 {m : Mm} (h : Sh m) : gR m 225 32 = 250 := sh_R h 248 rfl
theorem shR_225_33 {m : Mm} (h : Sh m) : gR m 225 33 = 251 := sh_R h 249 rfl
theorem shR_225_34 {m : Mm} (h : Sh m) : gR m 225 34 = 252 := sh_R h 250 rfl
theorem shR_225_44 {m : Mm} (h : Sh m) : gR m 225 44 = 253 := sh_R h 251 rfl
theorem shR_225_47 {m : Mm} (h : Sh m) : gR m 225 47 = 254 := sh_R h 252 rfl
theorem shR_225_48 {m : Mm} (h : Sh m) : gR m 225 48 = 255 := sh_R h 253 rfl
theorem shR_225_49 {m : Mm} (h : Sh m) : gR m 225 49 = 256 := sh_R h 254 rfl
theorem shR_225_52 {m : Mm} (h : Sh m) : gR m 225 52 = 257 := sh_R h 255 rfl
theorem shR_225_53 {m : Mm} (h : Sh m) : gR m 225 53 = 258 := sh_R h 256 rfl
theorem shR_225_54 {m : Mm} (h : Sh m) : gR m 225 54 = 259 := sh_R h 257 rfl
theorem shR_225_55 {m : Mm} (h : Sh m) : gR m 225 55 = 260 := sh_R h 258 rfl
theorem shR_225_56 {m : Mm} (h : Sh m) : gR m 225 56 = 261 := sh_R h 259 rfl
theorem shR_225_57 {m : Mm} (h : Sh m) : gR m 225 57 = 262 := sh_R h 260 rfl
theorem shR_225_58 {m : Mm} (h : Sh m) : gR m 225 58 = 263 := sh_R h 261 rfl
theorem shR_225_59 {m : Mm} (h : Sh m) : gR m 225 59 = 264 := sh_R h 262 rfl
theorem shR_225_60 {m : Mm} (h : Sh m) : gR m 225 60 = 265 := sh_R h 263 rfl
theorem shR_225_61 {m : Mm} (h : Sh m) : gR m 225 61 = 266 := sh_R h 264 rfl
theorem shR_225_62 {m : Mm} (h : Sh m) : gR m 225 62 = 267 := sh_R h 265 rfl
theorem shR_225_63 {m : Mm} (h : Sh m) : gR m 225 63 = 268 := sh_R h 266 rfl
theorem shR_225_64 {m : Mm} (h : Sh m) : gR m 225 64 = 269 := sh_R h 267 rfl
theorem shR_225_65 {m : Mm} (h : Sh m) : gR m 225 65 = 270 := sh_R h 268 rfl
theorem shR_225_66 {m : Mm} (h : Sh m) : gR m 225 66 = 271 := sh_R h 269 rfl
theorem shR_225_67 {m : Mm} (h : Sh m) : gR m 225 67 = 272 := sh_R h 270 rfl
theorem shR_225_68 {m : Mm} (h : Sh m) : gR m 225 68 = 273 := sh_R h 271 rfl
theorem shR_225_70 {m : Mm} (h : Sh m) : gR m 225 70 = 274 := sh_R h 272 rfl
theorem shR_225_71 {m : Mm} (h : Sh m) : gR m 225 71 = 275 := sh_R h 273 rfl
theorem shR_225_72 {m : Mm} (h : Sh m) : gR m 225 72 = 276 := sh_R h 274 rfl
theorem shR_225_73 {m : Mm} (h : Sh m) : gR m 225 73 = 277 := sh_R h 275 rfl
theorem shR_225_74 {m : Mm} (h : Sh m) : gR m 225 74 = 278 := sh_R h 276 rfl
theorem shR_225_75 {m : Mm} (h : Sh m) : gR m 225 75 = 279 := sh_R h 277 rfl
theorem shR_225_76 {m : Mm} (h : Sh m) : gR m 225 76 = 280 := sh_R h 278 rfl
