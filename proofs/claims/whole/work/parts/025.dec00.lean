theorem dX0_init_0 : decode cX0_init 0 = .ok (.aload_n 0, 1) := by decide +kernel
theorem dX0_init_1 : decode cX0_init 1 = .ok (.invokespecial 3, 3) := by decide +kernel
theorem dX0_init_4 : decode cX0_init 4 = .ok (.aload_n 0, 1) := by decide +kernel
theorem dX0_init_5 : decode cX0_init 5 = .ok (.iconst 4, 1) := by decide +kernel
theorem dX0_init_6 : decode cX0_init 6 = .ok (.newarray .int, 2) := by decide +kernel
theorem dX0_init_8 : decode cX0_init 8 = .ok (.putfield 11, 3) := by decide +kernel
theorem dX0_init_11 : decode cX0_init 11 = .ok (.aload_n 0, 1) := by decide +kernel
theorem dX0_init_12 : decode cX0_init 12 = .ok (.iconst 4, 1) := by decide +kernel
theorem dX0_init_13 : decode cX0_init 13 = .ok (.newarray .int, 2) := by decide +kernel
theorem dX0_init_15 : decode cX0_init 15 = .ok (.putfield 15, 3) := by decide +kernel
theorem dX0_init_18 : decode cX0_init 18 = .ok (.aload_n 0, 1) := by decide +kernel
theorem dX0_init_19 : decode cX0_init 19 = .ok (.aload_n 1, 1) := by decide +kernel
theorem dX0_init_20 : decode cX0_init 20 = .ok (.putfield 18, 3) := by decide +kernel
theorem dX0_init_23 : decode cX0_init 23 = .ok (.return_, 1) := by decide +kernel
theorem dX0_choosePlaces_0 : decode cX0_choosePlaces 0 = .ok (.aload_n 0, 1) := by decide +kernel
theorem dX0_choosePlaces_1 : decode cX0_choosePlaces 1 = .ok (.iconst 0, 1) := by decide +kernel
theorem dX0_choosePlaces_2 : decode cX0_choosePlaces 2 = .ok (.putfield 22, 3) := by decide +kernel
theorem dX0_choosePlaces_5 : decode cX0_choosePlaces 5 = .ok (.iconst 0, 1) := by decide +kernel
theorem dX0_choosePlaces_6 : decode cX0_choosePlaces 6 = .ok (.istore_n 3, 1) := by decide +kernel
theorem dX0_choosePlaces_7 : decode cX0_choosePlaces 7 = .ok (.iload_n 3, 1) := by decide +kernel
theorem dX0_choosePlaces_8 : decode cX0_choosePlaces 8 = .ok (.aload_n 1, 1) := by decide +kernel
theorem dX0_choosePlaces_9 : decode cX0_choosePlaces 9 = .ok (.getfield 26, 3) := by decide +kernel
theorem dX0_choosePlaces_12 : decode cX0_choosePlaces 12 = .ok (.if_icmp .ge 62, 3) := by decide +kernel
theorem dX0_choosePlaces_15 : decode cX0_choosePlaces 15 = .ok (.aload_n 0, 1) := by decide +kernel
theorem dX0_choosePlaces_16 : decode cX0_choosePlaces 16 = .ok (.getfield 22, 3) := by decide +kernel
theorem dX0_choosePlaces_19 : decode cX0_choosePlaces 19 = .ok (.iconst 4, 1) := by decide +kernel
theorem dX0_choosePlaces_20 : decode cX0_choosePlaces 20 = .ok (.if_icmp .ge 54, 3) := by decide +kernel
theorem dX0_choosePlaces_23 : decode cX0_choosePlaces 23 = .ok (.aload_n 1, 1) := by decide +kernel
theorem dX0_choosePlaces_24 : decode cX0_choosePlaces 24 = .ok (.getfield 31, 3) := by decide +kernel
theorem dX0_choosePlaces_27 : decode cX0_choosePlaces 27 = .ok (.iload_n 3, 1) := by decide +kernel
theorem dX0_choosePlaces_28 : decode cX0_choosePlaces 28 = .ok (.aaload, 1) := by decide +kernel
theorem dX0_choosePlaces_29 : decode cX0_choosePlaces 29 = .ok (.getfield 35, 3) := by decide +kernel
theorem dX0_choosePlaces_32 : decode cX0_choosePlaces 32 = .ok (.ifCond .eq 36, 3) := by decide +kernel
theorem dX0_choosePlaces_35 : decode cX0_choosePlaces 35 = .ok (.aload_n 1, 1) := by decide +kernel
theorem dX0_choosePlaces_36 : decode cX0_choosePlaces 36 = .ok (.getfield 31, 3) := by decide +kernel
theorem dX0_choosePlaces_39 : decode cX0_choosePlaces 39 = .ok (.iload_n 3, 1) := by decide +kernel
theorem dX0_choosePlaces_40 : decode cX0_choosePlaces 40 = .ok (.aaload, 1) := by decide +kernel
theorem dX0_choosePlaces_41 : decode cX0_choosePlaces 41 = .ok (.getfield 41, 3) := by decide +kernel
theorem dX0_choosePlaces_44 : decode cX0_choosePlaces 44 = .ok (.iload_n 2, 1) := by decide +kernel
theorem dX0_choosePlaces_45 : decode cX0_choosePlaces 45 = .ok (.if_icmp .ne 23, 3) := by decide +kernel
theorem dX0_choosePlaces_48 : decode cX0_choosePlaces 48 = .ok (.aload_n 0, 1) := by decide +kernel
theorem dX0_choosePlaces_49 : decode cX0_choosePlaces 49 = .ok (.getfield 11, 3) := by decide +kernel
theorem dX0_choosePlaces_52 : decode cX0_choosePlaces 52 = .ok (.aload_n 0, 1) := by decide +kernel
theorem dX0_choosePlaces_53 : decode cX0_choosePlaces 53 = .ok (.getfield 22, 3) := by decide +kernel
theorem dX0_choosePlaces_56 : decode cX0_choosePlaces 56 = .ok (.iload_n 3, 1) := by decide +kernel
theorem dX0_choosePlaces_57 : decode cX0_choosePlaces 57 = .ok (.iastore, 1) := by decide +kernel
theorem dX0_choosePlaces_58 : decode cX0_choosePlaces 58 = .ok (.aload_n 0, 1) := by decide +kernel
theorem dX0_choosePlaces_59 : decode cX0_choosePlaces 59 = .ok (.dup, 1) := by decide +kernel
theorem dX0_choosePlaces_60 : decode cX0_choosePlaces 60 = .ok (.getfield 22, 3) := by decide +kernel
theorem dX0_choosePlaces_63 : decode cX0_choosePlaces 63 = .ok (.iconst 1, 1) := by decide +kernel
theorem dX0_choosePlaces_64 : decode cX0_choosePlaces 64 = .ok (.iadd, 1) := by decide +kernel
theorem dX0_choosePlaces_65 : decode cX0_choosePlaces 65 = .ok (.putfield 22, 3) := by decide +kernel
theorem dX0_choosePlaces_68 : decode cX0_choosePlaces 68 = .ok (.iinc 3 1, 3) := by decide +kernel
theorem dX0_choosePlaces_71 : decode cX0_choosePlaces 71 = .ok (.goto (-64), 3) := by decide +kernel
theorem dX0_choosePlaces_74 : decode cX0_choosePlaces 74 = .ok (.return_, 1) := by decide +kernel
theorem dX0_cheapest_0 : decode cX0_cheapest 0 = .ok (.iconst 1, 1) := by decide +kernel
theorem dX0_cheapest_1 : decode cX0_cheapest 1 = .ok (.iconst 2, 1) := by decide +kernel
theorem dX0_cheapest_2 : decode cX0_cheapest 2 = .ok (.aload_n 0, 1) := by decide +kernel
theorem dX0_cheapest_3 : decode cX0_cheapest 3 = .ok (.getfield 22, 3) := by decide +kernel
theorem dX0_cheapest_6 : decode cX0_cheapest 6 = .ok (.imul, 1) := by decide +kernel
theorem dX0_cheapest_7 : decode cX0_cheapest 7 = .ok (.ishl, 1) := by decide +kernel
theorem dX0_cheapest_8 : decode cX0_cheapest 8 = .ok (.istore 5, 2) := by decide +kernel
theorem dX0_cheapest_10 : decode cX0_cheapest 10 = .ok (.aload_n 0, 1) := by decide +kernel
theorem dX0_cheapest_11 : decode cX0_cheapest 11 = .ok (.getfield 18, 3) := by decide +kernel
theorem dX0_cheapest_14 : decode cX0_cheapest 14 = .ok (.invokevirtual 44, 3) := by decide +kernel
theorem dX0_cheapest_17 : decode cX0_cheapest 17 = .ok (.iconst 0, 1) := by decide +kernel
theorem dX0_cheapest_18 : decode cX0_cheapest 18 = .ok (.istore 6, 2) := by decide +kernel
theorem dX0_cheapest_20 : decode cX0_cheapest 20 = .ok (.iload 6, 2) := by decide +kernel
theorem dX0_cheapest_22 : decode cX0_cheapest 22 = .ok (.iconst 3, 1) := by decide +kernel
theorem dX0_cheapest_23 : decode cX0_cheapest 23 = .ok (.aload_n 0, 1) := by decide +kernel
theorem dX0_cheapest_24 : decode cX0_cheapest 24 = .ok (.getfield 22, 3) := by decide +kernel
theorem dX0_cheapest_27 : decode cX0_cheapest 27 = .ok (.imul, 1) := by decide +kernel
theorem dX0_cheapest_28 : decode cX0_cheapest 28 = .ok (.if_icmp .gt 51, 3) := by decide +kernel
theorem dX0_cheapest_31 : decode cX0_cheapest 31 = .ok (.iconst 0, 1) := by decide +kernel
theorem dX0_cheapest_32 : decode cX0_cheapest 32 = .ok (.istore 7, 2) := by decide +kernel
theorem dX0_cheapest_34 : decode cX0_cheapest 34 = .ok (.iload 7, 2) := by decide +kernel
theorem dX0_cheapest_36 : decode cX0_cheapest 36 = .ok (.iload 5, 2) := by decide +kernel
theorem dX0_cheapest_38 : decode cX0_cheapest 38 = .ok (.if_icmp .ge 35, 3) := by decide +kernel
theorem dX0_cheapest_41 : decode cX0_cheapest 41 = .ok (.aload_n 0, 1) := by decide +kernel
theorem dX0_cheapest_42 : decode cX0_cheapest 42 = .ok (.iload 7, 2) := by decide +kernel
theorem dX0_cheapest_44 : decode cX0_cheapest 44 = .ok (.invokevirtual 47, 3) := by decide +kernel
theorem dX0_cheapest_47 : decode cX0_cheapest 47 = .ok (.iload 6, 2) := by decide +kernel
theorem dX0_cheapest_49 : decode cX0_cheapest 49 = .ok (.if_icmp .ne 18, 3) := by decide +kernel
theorem dX0_cheapest_52 : decode cX0_cheapest 52 = .ok (.aload_n 0, 1) := by decide +kernel
theorem dX0_cheapest_53 : decode cX0_cheapest 53 = .ok (.aload_n 1, 1) := by decide +kernel
theorem dX0_cheapest_54 : decode cX0_cheapest 54 = .ok (.aload_n 2, 1) := by decide +kernel
theorem dX0_cheapest_55 : decode cX0_cheapest 55 = .ok (.iload_n 3, 1) := by decide +kernel
theorem dX0_cheapest_56 : decode cX0_cheapest 56 = .ok (.iload 4, 2) := by decide +kernel
theorem dX0_cheapest_58 : decode cX0_cheapest 58 = .ok (.invokevirtual 51, 3) := by decide +kernel
theorem dX0_cheapest_61 : decode cX0_cheapest 61 = .ok (.ifCond .eq 6, 3) := by decide +kernel
theorem dX0_cheapest_64 : decode cX0_cheapest 64 = .ok (.iload 6, 2) := by decide +kernel
theorem dX0_cheapest_66 : decode cX0_cheapest 66 = .ok (.ireturn, 1) := by decide +kernel
theorem dX0_cheapest_67 : decode cX0_cheapest 67 = .ok (.iinc 7 1, 3) := by decide +kernel
theorem dX0_cheapest_70 : decode cX0_cheapest 70 = .ok (.goto (-36), 3) := by decide +kernel
theorem dX0_cheapest_73 : decode cX0_cheapest 73 = .ok (.iinc 6 1, 3) := by decide +kernel
theorem dX0_cheapest_76 : decode cX0_cheapest 76 = .ok (.goto (-56), 3) := by decide +kernel
theorem dX0_cheapest_79 : decode cX0_cheapest 79 = .ok (.iconst (-1), 1) := by decide +kernel
theorem dX0_cheapest_80 : decode cX0_cheapest 80 = .ok (.ireturn, 1) := by decide +kernel
theorem dX0_writeRow_0 : decode cX0_writeRow 0 = .ok (.iconst 0, 1) := by decide +kernel
theorem dX0_writeRow_1 : decode cX0_writeRow 1 = .ok (.istore_n 2, 1) := by decide +kernel
theorem dX0_writeRow_2 : decode cX0_writeRow 2 = .ok (.iconst 0, 1) := by decide +kernel
theorem dX0_writeRow_3 : decode cX0_writeRow 3 = .ok (.istore_n 3, 1) := by decide +kernel
theorem dX0_writeRow_4 : decode cX0_writeRow 4 = .ok (.iload_n 3, 1) := by decide +kernel
theorem dX0_writeRow_5 : decode cX0_writeRow 5 = .ok (.aload_n 0, 1) := by decide +kernel
theorem dX0_writeRow_6 : decode cX0_writeRow 6 = .ok (.getfield 22, 3) := by decide +kernel
theorem dX0_writeRow_9 : decode cX0_writeRow 9 = .ok (.if_icmp .ge 38, 3) := by decide +kernel
theorem dX0_writeRow_12 : decode cX0_writeRow 12 = .ok (.aload_n 0, 1) := by decide +kernel
theorem dX0_writeRow_13 : decode cX0_writeRow 13 = .ok (.getfield 15, 3) := by decide +kernel
theorem dX0_writeRow_16 : decode cX0_writeRow 16 = .ok (.iload_n 3, 1) := by decide +kernel
theorem dX0_writeRow_17 : decode cX0_writeRow 17 = .ok (.iload_n 1, 1) := by decide +kernel
theorem dX0_writeRow_18 : decode cX0_writeRow 18 = .ok (.iconst 2, 1) := by decide +kernel
theorem dX0_writeRow_19 : decode cX0_writeRow 19 = .ok (.aload_n 0, 1) := by decide +kernel
theorem dX0_writeRow_20 : decode cX0_writeRow 20 = .ok (.getfield 22, 3) := by decide +kernel
theorem dX0_writeRow_23 : decode cX0_writeRow 23 = .ok (.iconst 1, 1) := by decide +kernel
theorem dX0_writeRow_24 : decode cX0_writeRow 24 = .ok (.isub, 1) := by decide +kernel
theorem dX0_writeRow_25 : decode cX0_writeRow 25 = .ok (.iload_n 3, 1) := by decide +kernel
theorem dX0_writeRow_26 : decode cX0_writeRow 26 = .ok (.isub, 1) := by decide +kernel
theorem dX0_writeRow_27 : decode cX0_writeRow 27 = .ok (.imul, 1) := by decide +kernel
theorem dX0_writeRow_28 : decode cX0_writeRow 28 = .ok (.ishr, 1) := by decide +kernel
theorem dX0_writeRow_29 : decode cX0_writeRow 29 = .ok (.iconst 3, 1) := by decide +kernel
theorem dX0_writeRow_30 : decode cX0_writeRow 30 = .ok (.iand, 1) := by decide +kernel
theorem dX0_writeRow_31 : decode cX0_writeRow 31 = .ok (.iastore, 1) := by decide +kernel
theorem dX0_writeRow_32 : decode cX0_writeRow 32 = .ok (.iload_n 2, 1) := by decide +kernel
theorem dX0_writeRow_33 : decode cX0_writeRow 33 = .ok (.aload_n 0, 1) := by decide +kernel
theorem dX0_writeRow_34 : decode cX0_writeRow 34 = .ok (.getfield 15, 3) := by decide +kernel
theorem dX0_writeRow_37 : decode cX0_writeRow 37 = .ok (.iload_n 3, 1) := by decide +kernel
theorem dX0_writeRow_38 : decode cX0_writeRow 38 = .ok (.iaload, 1) := by decide +kernel
theorem dX0_writeRow_39 : decode cX0_writeRow 39 = .ok (.iadd, 1) := by decide +kernel
theorem dX0_writeRow_40 : decode cX0_writeRow 40 = .ok (.istore_n 2, 1) := by decide +kernel
theorem dX0_writeRow_41 : decode cX0_writeRow 41 = .ok (.iinc 3 1, 3) := by decide +kernel
theorem dX0_writeRow_44 : decode cX0_writeRow 44 = .ok (.goto (-40), 3) := by decide +kernel
theorem dX0_writeRow_47 : decode cX0_writeRow 47 = .ok (.iload_n 2, 1) := by decide +kernel
theorem dX0_writeRow_48 : decode cX0_writeRow 48 = .ok (.ireturn, 1) := by decide +kernel
theorem dX0_wins_0 : decode cX0_wins 0 = .ok (.aload_n 0, 1) := by decide +kernel
theorem dX0_wins_1 : decode cX0_wins 1 = .ok (.getfield 18, 3) := by decide +kernel
theorem dX0_wins_4 : decode cX0_wins 4 = .ok (.aload_n 1, 1) := by decide +kernel
theorem dX0_wins_5 : decode cX0_wins 5 = .ok (.invokevirtual 55, 3) := by decide +kernel
theorem dX0_wins_8 : decode cX0_wins 8 = .ok (.aload_n 0, 1) := by decide +kernel
theorem dX0_wins_9 : decode cX0_wins 9 = .ok (.aload_n 0, 1) := by decide +kernel
theorem dX0_wins_10 : decode cX0_wins 10 = .ok (.getfield 18, 3) := by decide +kernel
theorem dX0_wins_13 : decode cX0_wins 13 = .ok (.invokevirtual 59, 3) := by decide +kernel
theorem dX0_wins_16 : decode cX0_wins 16 = .ok (.iconst 0, 1) := by decide +kernel
theorem dX0_wins_17 : decode cX0_wins 17 = .ok (.istore 5, 2) := by decide +kernel
theorem dX0_wins_19 : decode cX0_wins 19 = .ok (.iload 5, 2) := by decide +kernel
theorem dX0_wins_21 : decode cX0_wins 21 = .ok (.iload 4, 2) := by decide +kernel
theorem dX0_wins_23 : decode cX0_wins 23 = .ok (.if_icmp .ge 18, 3) := by decide +kernel
theorem dX0_wins_26 : decode cX0_wins 26 = .ok (.aload_n 0, 1) := by decide +kernel
theorem dX0_wins_27 : decode cX0_wins 27 = .ok (.getfield 18, 3) := by decide +kernel
theorem dX0_wins_30 : decode cX0_wins 30 = .ok (.aload_n 2, 1) := by decide +kernel
theorem dX0_wins_31 : decode cX0_wins 31 = .ok (.invokevirtual 62, 3) := by decide +kernel
theorem dX0_wins_34 : decode cX0_wins 34 = .ok (.pop, 1) := by decide +kernel
theorem dX0_wins_35 : decode cX0_wins 35 = .ok (.iinc 5 1, 3) := by decide +kernel
theorem dX0_wins_38 : decode cX0_wins 38 = .ok (.goto (-19), 3) := by decide +kernel
theorem dX0_wins_41 : decode cX0_wins 41 = .ok (.aload_n 0, 1) := by decide +kernel
theorem dX0_wins_42 : decode cX0_wins 42 = .ok (.getfield 18, 3) := by decide +kernel
theorem dX0_wins_45 : decode cX0_wins 45 = .ok (.invokevirtual 66, 3) := by decide +kernel
theorem dX0_wins_48 : decode cX0_wins 48 = .ok (.iload_n 3, 1) := by decide +kernel
theorem dX0_wins_49 : decode cX0_wins 49 = .ok (.if_icmp .ne 7, 3) := by decide +kernel
theorem dX0_wins_52 : decode cX0_wins 52 = .ok (.iconst 1, 1) := by decide +kernel
theorem dX0_wins_53 : decode cX0_wins 53 = .ok (.goto 4, 3) := by decide +kernel
theorem dX0_wins_56 : decode cX0_wins 56 = .ok (.iconst 0, 1) := by decide +kernel
theorem dX0_wins_57 : decode cX0_wins 57 = .ok (.ireturn, 1) := by decide +kernel
theorem dX0_spreadOn_0 : decode cX0_spreadOn 0 = .ok (.iconst 0, 1) := by decide +kernel
theorem dX0_spreadOn_1 : decode cX0_spreadOn 1 = .ok (.istore_n 2, 1) := by decide +kernel
theorem dX0_spreadOn_2 : decode cX0_spreadOn 2 = .ok (.iload_n 2, 1) := by decide +kernel
theorem dX0_spreadOn_3 : decode cX0_spreadOn 3 = .ok (.aload_n 0, 1) := by decide +kernel
theorem dX0_spreadOn_4 : decode cX0_spreadOn 4 = .ok (.getfield 22, 3) := by decide +kernel
theorem dX0_spreadOn_7 : decode cX0_spreadOn 7 = .ok (.if_icmp .ge 29, 3) := by decide +kernel
theorem dX0_spreadOn_10 : decode cX0_spreadOn 10 = .ok (.aload_n 1, 1) := by decide +kernel
theorem dX0_spreadOn_11 : decode cX0_spreadOn 11 = .ok (.getfield 31, 3) := by decide +kernel
theorem dX0_spreadOn_14 : decode cX0_spreadOn 14 = .ok (.aload_n 0, 1) := by decide +kernel
theorem dX0_spreadOn_15 : decode cX0_spreadOn 15 = .ok (.getfield 11, 3) := by decide +kernel
theorem dX0_spreadOn_18 : decode cX0_spreadOn 18 = .ok (.iload_n 2, 1) := by decide +kernel
theorem dX0_spreadOn_19 : decode cX0_spreadOn 19 = .ok (.iaload, 1) := by decide +kernel
theorem dX0_spreadOn_20 : decode cX0_spreadOn 20 = .ok (.aaload, 1) := by decide +kernel
theorem dX0_spreadOn_21 : decode cX0_spreadOn 21 = .ok (.aload_n 0, 1) := by decide +kernel
theorem dX0_spreadOn_22 : decode cX0_spreadOn 22 = .ok (.getfield 15, 3) := by decide +kernel
theorem dX0_spreadOn_25 : decode cX0_spreadOn 25 = .ok (.iload_n 2, 1) := by decide +kernel
theorem dX0_spreadOn_26 : decode cX0_spreadOn 26 = .ok (.iaload, 1) := by decide +kernel
theorem dX0_spreadOn_27 : decode cX0_spreadOn 27 = .ok (.invokevirtual 70, 3) := by decide +kernel
theorem dX0_spreadOn_30 : decode cX0_spreadOn 30 = .ok (.iinc 2 1, 3) := by decide +kernel
theorem dX0_spreadOn_33 : decode cX0_spreadOn 33 = .ok (.goto (-31), 3) := by decide +kernel
theorem dX0_spreadOn_36 : decode cX0_spreadOn 36 = .ok (.return_, 1) := by decide +kernel
theorem dX1_init_0 : decode cX1_init 0 = .ok (.aload_n 0, 1) := by decide +kernel
theorem dX1_init_1 : decode cX1_init 1 = .ok (.invokespecial 3, 3) := by decide +kernel
theorem dX1_init_4 : decode cX1_init 4 = .ok (.aload_n 0, 1) := by decide +kernel
theorem dX1_init_5 : decode cX1_init 5 = .ok (.iconst 5, 1) := by decide +kernel
theorem dX1_init_6 : decode cX1_init 6 = .ok (.newarray .int, 2) := by decide +kernel
theorem dX1_init_8 : decode cX1_init 8 = .ok (.putfield 9, 3) := by decide +kernel
theorem dX1_init_11 : decode cX1_init 11 = .ok (.return_, 1) := by decide +kernel
theorem dX1_enter_0 : decode cX1_enter 0 = .ok (.aload_n 0, 1) := by decide +kernel
theorem dX1_enter_1 : decode cX1_enter 1 = .ok (.iload_n 1, 1) := by decide +kernel
theorem dX1_enter_2 : decode cX1_enter 2 = .ok (.putfield 15, 3) := by decide +kernel
theorem dX1_enter_5 : decode cX1_enter 5 = .ok (.aload_n 0, 1) := by decide +kernel
theorem dX1_enter_6 : decode cX1_enter 6 = .ok (.iload_n 2, 1) := by decide +kernel
theorem dX1_enter_7 : decode cX1_enter 7 = .ok (.putfield 19, 3) := by decide +kernel
theorem dX1_enter_10 : decode cX1_enter 10 = .ok (.aload_n 0, 1) := by decide +kernel
theorem dX1_enter_11 : decode cX1_enter 11 = .ok (.iload_n 3, 1) := by decide +kernel
theorem dX1_enter_12 : decode cX1_enter 12 = .ok (.putfield 22, 3) := by decide +kernel
theorem dX1_enter_15 : decode cX1_enter 15 = .ok (.aload_n 0, 1) := by decide +kernel
theorem dX1_enter_16 : decode cX1_enter 16 = .ok (.iload 4, 2) := by decide +kernel
theorem dX1_enter_18 : decode cX1_enter 18 = .ok (.putfield 25, 3) := by decide +kernel
theorem dX1_enter_21 : decode cX1_enter 21 = .ok (.aload_n 0, 1) := by decide +kernel
theorem dX1_enter_22 : decode cX1_enter 22 = .ok (.bipush (-2), 2) := by decide +kernel
theorem dX1_enter_24 : decode cX1_enter 24 = .ok (.putfield 28, 3) := by decide +kernel
theorem dX1_enter_27 : decode cX1_enter 27 = .ok (.iconst 0, 1) := by decide +kernel
theorem dX1_enter_28 : decode cX1_enter 28 = .ok (.istore 5, 2) := by decide +kernel
theorem dX1_enter_30 : decode cX1_enter 30 = .ok (.iload 5, 2) := by decide +kernel
theorem dX1_enter_32 : decode cX1_enter 32 = .ok (.iconst 5, 1) := by decide +kernel
theorem dX1_enter_33 : decode cX1_enter 33 = .ok (.if_icmp .ge 17, 3) := by decide +kernel
theorem dX1_enter_36 : decode cX1_enter 36 = .ok (.aload_n 0, 1) := by decide +kernel
theorem dX1_enter_37 : decode cX1_enter 37 = .ok (.getfield 9, 3) := by decide +kernel
theorem dX1_enter_40 : decode cX1_enter 40 = .ok (.iload 5, 2) := by decide +kernel
theorem dX1_enter_42 : decode cX1_enter 42 = .ok (.iconst 0, 1) := by decide +kernel
theorem dX1_enter_43 : decode cX1_enter 43 = .ok (.iastore, 1) := by decide +kernel
theorem dX1_enter_44 : decode cX1_enter 44 = .ok (.iinc 5 1, 3) := by decide +kernel
theorem dX1_enter_47 : decode cX1_enter 47 = .ok (.goto (-17), 3) := by decide +kernel
theorem dX1_enter_50 : decode cX1_enter 50 = .ok (.return_, 1) := by decide +kernel
theorem dX1_copyFrom_0 : decode cX1_copyFrom 0 = .ok (.aload_n 0, 1) := by decide +kernel
theorem dX1_copyFrom_1 : decode cX1_copyFrom 1 = .ok (.aload_n 1, 1) := by decide +kernel
theorem dX1_copyFrom_2 : decode cX1_copyFrom 2 = .ok (.getfield 15, 3) := by decide +kernel
theorem dX1_copyFrom_5 : decode cX1_copyFrom 5 = .ok (.putfield 15, 3) := by decide +kernel
theorem dX1_copyFrom_8 : decode cX1_copyFrom 8 = .ok (.aload_n 0, 1) := by decide +kernel
theorem dX1_copyFrom_9 : decode cX1_copyFrom 9 = .ok (.aload_n 1, 1) := by decide +kernel
theorem dX1_copyFrom_10 : decode cX1_copyFrom 10 = .ok (.getfield 19, 3) := by decide +kernel
theorem dX1_copyFrom_13 : decode cX1_copyFrom 13 = .ok (.putfield 19, 3) := by decide +kernel
theorem dX1_copyFrom_16 : decode cX1_copyFrom 16 = .ok (.aload_n 0, 1) := by decide +kernel
theorem dX1_copyFrom_17 : decode cX1_copyFrom 17 = .ok (.aload_n 1, 1) := by decide +kernel
theorem dX1_copyFrom_18 : decode cX1_copyFrom 18 = .ok (.getfield 22, 3) := by decide +kernel
theorem dX1_copyFrom_21 : decode cX1_copyFrom 21 = .ok (.putfield 22, 3) := by decide +kernel
theorem dX1_copyFrom_24 : decode cX1_copyFrom 24 = .ok (.aload_n 0, 1) := by decide +kernel
theorem dX1_copyFrom_25 : decode cX1_copyFrom 25 = .ok (.aload_n 1, 1) := by decide +kernel
theorem dX1_copyFrom_26 : decode cX1_copyFrom 26 = .ok (.getfield 25, 3) := by decide +kernel
theorem dX1_copyFrom_29 : decode cX1_copyFrom 29 = .ok (.putfield 25, 3) := by decide +kernel
theorem dX1_copyFrom_32 : decode cX1_copyFrom 32 = .ok (.aload_n 0, 1) := by decide +kernel
theorem dX1_copyFrom_33 : decode cX1_copyFrom 33 = .ok (.aload_n 1, 1) := by decide +kernel
theorem dX1_copyFrom_34 : decode cX1_copyFrom 34 = .ok (.getfield 28, 3) := by decide +kernel
theorem dX1_copyFrom_37 : decode cX1_copyFrom 37 = .ok (.putfield 28, 3) := by decide +kernel
theorem dX1_copyFrom_40 : decode cX1_copyFrom 40 = .ok (.iconst 0, 1) := by decide +kernel
theorem dX1_copyFrom_41 : decode cX1_copyFrom 41 = .ok (.istore_n 2, 1) := by decide +kernel
theorem dX1_copyFrom_42 : decode cX1_copyFrom 42 = .ok (.iload_n 2, 1) := by decide +kernel
theorem dX1_copyFrom_43 : decode cX1_copyFrom 43 = .ok (.iconst 5, 1) := by decide +kernel
theorem dX1_copyFrom_44 : decode cX1_copyFrom 44 = .ok (.if_icmp .ge 21, 3) := by decide +kernel
theorem dX1_copyFrom_47 : decode cX1_copyFrom 47 = .ok (.aload_n 0, 1) := by decide +kernel
theorem dX1_copyFrom_48 : decode cX1_copyFrom 48 = .ok (.getfield 9, 3) := by decide +kernel
theorem dX1_copyFrom_51 : decode cX1_copyFrom 51 = .ok (.iload_n 2, 1) := by decide +kernel
theorem dX1_copyFrom_52 : decode cX1_copyFrom 52 = .ok (.aload_n 1, 1) := by decide +kernel
theorem dX1_copyFrom_53 : decode cX1_copyFrom 53 = .ok (.getfield 9, 3) := by decide +kernel
theorem dX1_copyFrom_56 : decode cX1_copyFrom 56 = .ok (.iload_n 2, 1) := by decide +kernel
theorem dX1_copyFrom_57 : decode cX1_copyFrom 57 = .ok (.iaload, 1) := by decide +kernel
theorem dX1_copyFrom_58 : decode cX1_copyFrom 58 = .ok (.iastore, 1) := by decide +kernel
theorem dX1_copyFrom_59 : decode cX1_copyFrom 59 = .ok (.iinc 2 1, 3) := by decide +kernel
theorem dX1_copyFrom_62 : decode cX1_copyFrom 62 = .ok (.goto (-20), 3) := by decide +kernel
theorem dX1_copyFrom_65 : decode cX1_copyFrom 65 = .ok (.return_, 1) := by decide +kernel
theorem dX1_unlike_0 : decode cX1_unlike 0 = .ok (.iconst 0, 1) := by decide +kernel
theorem dX1_unlike_1 : decode cX1_unlike 1 = .ok (.istore_n 2, 1) := by decide +kernel
theorem dX1_unlike_2 : decode cX1_unlike 2 = .ok (.iconst 0, 1) := by decide +kernel
theorem dX1_unlike_3 : decode cX1_unlike 3 = .ok (.istore_n 3, 1) := by decide +kernel
theorem dX1_unlike_4 : decode cX1_unlike 4 = .ok (.iload_n 3, 1) := by decide +kernel
theorem dX1_unlike_5 : decode cX1_unlike 5 = .ok (.iconst 5, 1) := by decide +kernel
theorem dX1_unlike_6 : decode cX1_unlike 6 = .ok (.if_icmp .ge 28, 3) := by decide +kernel
theorem dX1_unlike_9 : decode cX1_unlike 9 = .ok (.iload_n 2, 1) := by decide +kernel
theorem dX1_unlike_10 : decode cX1_unlike 10 = .ok (.aload_n 0, 1) := by decide +kernel
theorem dX1_unlike_11 : decode cX1_unlike 11 = .ok (.getfield 9, 3) := by decide +kernel
theorem dX1_unlike_14 : decode cX1_unlike 14 = .ok (.iload_n 3, 1) := by decide +kernel
theorem dX1_unlike_15 : decode cX1_unlike 15 = .ok (.iaload, 1) := by decide +kernel
theorem dX1_unlike_16 : decode cX1_unlike 16 = .ok (.aload_n 1, 1) := by decide +kernel
theorem dX1_unlike_17 : decode cX1_unlike 17 = .ok (.getfield 9, 3) := by decide +kernel
theorem dX1_unlike_20 : decode cX1_unlike 20 = .ok (.iload_n 3, 1) := by decide +kernel
theorem dX1_unlike_21 : decode cX1_unlike 21 = .ok (.iaload, 1) := by decide +kernel
theorem dX1_unlike_22 : decode cX1_unlike 22 = .ok (.isub, 1) := by decide +kernel
theorem dX1_unlike_23 : decode cX1_unlike 23 = .ok (.invokestatic 31, 3) := by decide +kernel
theorem dX1_unlike_26 : decode cX1_unlike 26 = .ok (.iadd, 1) := by decide +kernel
theorem dX1_unlike_27 : decode cX1_unlike 27 = .ok (.istore_n 2, 1) := by decide +kernel
theorem dX1_unlike_28 : decode cX1_unlike 28 = .ok (.iinc 3 1, 3) := by decide +kernel
theorem dX1_unlike_31 : decode cX1_unlike 31 = .ok (.goto (-27), 3) := by decide +kernel
theorem dX1_unlike_34 : decode cX1_unlike 34 = .ok (.iload_n 2, 1) := by decide +kernel
theorem dX1_unlike_35 : decode cX1_unlike 35 = .ok (.ireturn, 1) := by decide +kernel
theorem dX1_step_0 : decode cX1_step 0 = .ok (.iload_n 1, 1) := by decide +kernel
theorem dX1_step_1 : decode cX1_step 1 = .ok (.ifCond .ne 21, 3) := by decide +kernel
theorem dX1_step_4 : decode cX1_step 4 = .ok (.aload_n 0, 1) := by decide +kernel
theorem dX1_step_5 : decode cX1_step 5 = .ok (.bipush 9, 2) := by decide +kernel
theorem dX1_step_7 : decode cX1_step 7 = .ok (.aload_n 0, 1) := by decide +kernel
theorem dX1_step_8 : decode cX1_step 8 = .ok (.getfield 19, 3) := by decide +kernel
theorem dX1_step_11 : decode cX1_step 11 = .ok (.iconst 1, 1) := by decide +kernel
theorem dX1_step_12 : decode cX1_step 12 = .ok (.iadd, 1) := by decide +kernel
theorem dX1_step_13 : decode cX1_step 13 = .ok (.invokestatic 37, 3) := by decide +kernel
theorem dX1_step_16 : decode cX1_step 16 = .ok (.putfield 19, 3) := by decide +kernel
theorem dX1_step_19 : decode cX1_step 19 = .ok (.goto 62, 3) := by decide +kernel
theorem dX1_step_22 : decode cX1_step 22 = .ok (.iload_n 1, 1) := by decide +kernel
theorem dX1_step_23 : decode cX1_step 23 = .ok (.iconst 1, 1) := by decide +kernel
theorem dX1_step_24 : decode cX1_step 24 = .ok (.if_icmp .ne 21, 3) := by decide +kernel
theorem dX1_step_27 : decode cX1_step 27 = .ok (.aload_n 0, 1) := by decide +kernel
theorem dX1_step_28 : decode cX1_step 28 = .ok (.bipush 9, 2) := by decide +kernel
theorem dX1_step_30 : decode cX1_step 30 = .ok (.aload_n 0, 1) := by decide +kernel
theorem dX1_step_31 : decode cX1_step 31 = .ok (.getfield 15, 3) := by decide +kernel
theorem dX1_step_34 : decode cX1_step 34 = .ok (.iconst 1, 1) := by decide +kernel
theorem dX1_step_35 : decode cX1_step 35 = .ok (.iadd, 1) := by decide +kernel
theorem dX1_step_36 : decode cX1_step 36 = .ok (.invokestatic 37, 3) := by decide +kernel
theorem dX1_step_39 : decode cX1_step 39 = .ok (.putfield 15, 3) := by decide +kernel
theorem dX1_step_42 : decode cX1_step 42 = .ok (.goto 39, 3) := by decide +kernel
theorem dX1_step_45 : decode cX1_step 45 = .ok (.iload_n 1, 1) := by decide +kernel
theorem dX1_step_46 : decode cX1_step 46 = .ok (.iconst 2, 1) := by decide +kernel
theorem dX1_step_47 : decode cX1_step 47 = .ok (.if_icmp .ne 20, 3) := by decide +kernel
theorem dX1_step_50 : decode cX1_step 50 = .ok (.aload_n 0, 1) := by decide +kernel
theorem dX1_step_51 : decode cX1_step 51 = .ok (.iconst 0, 1) := by decide +kernel
theorem dX1_step_52 : decode cX1_step 52 = .ok (.aload_n 0, 1) := by decide +kernel
theorem dX1_step_53 : decode cX1_step 53 = .ok (.getfield 19, 3) := by decide +kernel
theorem dX1_step_56 : decode cX1_step 56 = .ok (.iconst 1, 1) := by decide +kernel
theorem dX1_step_57 : decode cX1_step 57 = .ok (.isub, 1) := by decide +kernel
theorem dX1_step_58 : decode cX1_step 58 = .ok (.invokestatic 41, 3) := by decide +kernel
theorem dX1_step_61 : decode cX1_step 61 = .ok (.putfield 19, 3) := by decide +kernel
theorem dX1_step_64 : decode cX1_step 64 = .ok (.goto 17, 3) := by decide +kernel
theorem dX1_step_67 : decode cX1_step 67 = .ok (.aload_n 0, 1) := by decide +kernel
theorem dX1_step_68 : decode cX1_step 68 = .ok (.iconst 0, 1) := by decide +kernel
theorem dX1_step_69 : decode cX1_step 69 = .ok (.aload_n 0, 1) := by decide +kernel
theorem dX1_step_70 : decode cX1_step 70 = .ok (.getfield 15, 3) := by decide +kernel
theorem dX1_step_73 : decode cX1_step 73 = .ok (.iconst 1, 1) := by decide +kernel
theorem dX1_step_74 : decode cX1_step 74 = .ok (.isub, 1) := by decide +kernel
theorem dX1_step_75 : decode cX1_step 75 = .ok (.invokestatic 41, 3) := by decide +kernel
theorem dX1_step_78 : decode cX1_step 78 = .ok (.putfield 15, 3) := by decide +kernel
theorem dX1_step_81 : decode cX1_step 81 = .ok (.return_, 1) := by decide +kernel
theorem dX2_init_0 : decode cX2_init 0 = .ok (.aload_n 0, 1) := by decide +kernel
theorem dX2_init_1 : decode cX2_init 1 = .ok (.invokespecial 3, 3) := by decide +kernel
theorem dX2_init_4 : decode cX2_init 4 = .ok (.aload_n 0, 1) := by decide +kernel
theorem dX2_init_5 : decode cX2_init 5 = .ok (.bipush 20, 2) := by decide +kernel
theorem dX2_init_7 : decode cX2_init 7 = .ok (.newarray .int, 2) := by decide +kernel
theorem dX2_init_9 : decode cX2_init 9 = .ok (.putfield 11, 3) := by decide +kernel
theorem dX2_init_12 : decode cX2_init 12 = .ok (.return_, 1) := by decide +kernel
theorem dX2_tally_0 : decode cX2_tally 0 = .ok (.iconst 0, 1) := by decide +kernel
theorem dX2_tally_1 : decode cX2_tally 1 = .ok (.istore 4, 2) := by decide +kernel
theorem dX2_tally_3 : decode cX2_tally 3 = .ok (.iload 4, 2) := by decide +kernel
theorem dX2_tally_5 : decode cX2_tally 5 = .ok (.bipush 20, 2) := by decide +kernel
theorem dX2_tally_7 : decode cX2_tally 7 = .ok (.if_icmp .ge 17, 3) := by decide +kernel
theorem dX2_tally_10 : decode cX2_tally 10 = .ok (.aload_n 0, 1) := by decide +kernel
theorem dX2_tally_11 : decode cX2_tally 11 = .ok (.getfield 11, 3) := by decide +kernel
theorem dX2_tally_14 : decode cX2_tally 14 = .ok (.iload 4, 2) := by decide +kernel
theorem dX2_tally_16 : decode cX2_tally 16 = .ok (.iconst 0, 1) := by decide +kernel
theorem dX2_tally_17 : decode cX2_tally 17 = .ok (.iastore, 1) := by decide +kernel
theorem dX2_tally_18 : decode cX2_tally 18 = .ok (.iinc 4 1, 3) := by decide +kernel
theorem dX2_tally_21 : decode cX2_tally 21 = .ok (.goto (-18), 3) := by decide +kernel
theorem dX2_tally_24 : decode cX2_tally 24 = .ok (.iconst 0, 1) := by decide +kernel
theorem dX2_tally_25 : decode cX2_tally 25 = .ok (.istore 4, 2) := by decide +kernel
theorem dX2_tally_27 : decode cX2_tally 27 = .ok (.iload 4, 2) := by decide +kernel
theorem dX2_tally_29 : decode cX2_tally 29 = .ok (.aload_n 1, 1) := by decide +kernel
theorem dX2_tally_30 : decode cX2_tally 30 = .ok (.getfield 15, 3) := by decide +kernel
theorem dX2_tally_33 : decode cX2_tally 33 = .ok (.if_icmp .ge 82, 3) := by decide +kernel
theorem dX2_tally_36 : decode cX2_tally 36 = .ok (.aload_n 1, 1) := by decide +kernel
theorem dX2_tally_37 : decode cX2_tally 37 = .ok (.getfield 21, 3) := by decide +kernel
theorem dX2_tally_40 : decode cX2_tally 40 = .ok (.iload 4, 2) := by decide +kernel
theorem dX2_tally_42 : decode cX2_tally 42 = .ok (.aaload, 1) := by decide +kernel
theorem dX2_tally_43 : decode cX2_tally 43 = .ok (.astore 5, 2) := by decide +kernel
theorem dX2_tally_45 : decode cX2_tally 45 = .ok (.aload 5, 2) := by decide +kernel
theorem dX2_tally_47 : decode cX2_tally 47 = .ok (.getfield 25, 3) := by decide +kernel
theorem dX2_tally_50 : decode cX2_tally 50 = .ok (.iload_n 3, 1) := by decide +kernel
theorem dX2_tally_51 : decode cX2_tally 51 = .ok (.if_icmp .ge 7, 3) := by decide +kernel
theorem dX2_tally_54 : decode cX2_tally 54 = .ok (.iconst 0, 1) := by decide +kernel
theorem dX2_tally_55 : decode cX2_tally 55 = .ok (.goto 4, 3) := by decide +kernel
theorem dX2_tally_58 : decode cX2_tally 58 = .ok (.iconst 2, 1) := by decide +kernel
theorem dX2_tally_59 : decode cX2_tally 59 = .ok (.aload 5, 2) := by decide +kernel
theorem dX2_tally_61 : decode cX2_tally 61 = .ok (.getfield 30, 3) := by decide +kernel
theorem dX2_tally_64 : decode cX2_tally 64 = .ok (.iload_n 2, 1) := by decide +kernel
theorem dX2_tally_65 : decode cX2_tally 65 = .ok (.if_icmp .ge 7, 3) := by decide +kernel
theorem dX2_tally_68 : decode cX2_tally 68 = .ok (.iconst 0, 1) := by decide +kernel
theorem dX2_tally_69 : decode cX2_tally 69 = .ok (.goto 4, 3) := by decide +kernel
theorem dX2_tally_72 : decode cX2_tally 72 = .ok (.iconst 1, 1) := by decide +kernel
theorem dX2_tally_73 : decode cX2_tally 73 = .ok (.iadd, 1) := by decide +kernel
theorem dX2_tally_74 : decode cX2_tally 74 = .ok (.istore 6, 2) := by decide +kernel
theorem dX2_tally_76 : decode cX2_tally 76 = .ok (.aload 5, 2) := by decide +kernel
theorem dX2_tally_78 : decode cX2_tally 78 = .ok (.getfield 33, 3) := by decide +kernel
theorem dX2_tally_81 : decode cX2_tally 81 = .ok (.bipush (-2), 2) := by decide +kernel
theorem dX2_tally_83 : decode cX2_tally 83 = .ok (.if_icmp .eq 26, 3) := by decide +kernel
theorem dX2_tally_86 : decode cX2_tally 86 = .ok (.aload_n 0, 1) := by decide +kernel
theorem dX2_tally_87 : decode cX2_tally 87 = .ok (.getfield 11, 3) := by decide +kernel
theorem dX2_tally_90 : decode cX2_tally 90 = .ok (.iload 6, 2) := by decide +kernel
theorem dX2_tally_92 : decode cX2_tally 92 = .ok (.iconst 5, 1) := by decide +kernel
theorem dX2_tally_93 : decode cX2_tally 93 = .ok (.imul, 1) := by decide +kernel
theorem dX2_tally_94 : decode cX2_tally 94 = .ok (.aload 5, 2) := by decide +kernel
theorem dX2_tally_96 : decode cX2_tally 96 = .ok (.getfield 33, 3) := by decide +kernel
theorem dX2_tally_99 : decode cX2_tally 99 = .ok (.iadd, 1) := by decide +kernel
theorem dX2_tally_100 : decode cX2_tally 100 = .ok (.dup2, 1) := by decide +kernel
theorem dX2_tally_101 : decode cX2_tally 101 = .ok (.iaload, 1) := by decide +kernel
theorem dX2_tally_102 : decode cX2_tally 102 = .ok (.aload 5, 2) := by decide +kernel
theorem dX2_tally_104 : decode cX2_tally 104 = .ok (.getfield 36, 3) := by decide +kernel
theorem dX2_tally_107 : decode cX2_tally 107 = .ok (.iadd, 1) := by decide +kernel
theorem dX2_tally_108 : decode cX2_tally 108 = .ok (.iastore, 1) := by decide +kernel
theorem dX2_tally_109 : decode cX2_tally 109 = .ok (.iinc 4 1, 3) := by decide +kernel
theorem dX2_tally_112 : decode cX2_tally 112 = .ok (.goto (-85), 3) := by decide +kernel
theorem dX2_tally_115 : decode cX2_tally 115 = .ok (.return_, 1) := by decide +kernel
theorem dX2_holder_0 : decode cX2_holder 0 = .ok (.bipush (-2), 2) := by decide +kernel
theorem dX2_holder_2 : decode cX2_holder 2 = .ok (.istore_n 2, 1) := by decide +kernel
theorem dX2_holder_3 : decode cX2_holder 3 = .ok (.iconst 0, 1) := by decide +kernel
theorem dX2_holder_4 : decode cX2_holder 4 = .ok (.istore_n 3, 1) := by decide +kernel
theorem dX2_holder_5 : decode cX2_holder 5 = .ok (.iconst 0, 1) := by decide +kernel
theorem dX2_holder_6 : decode cX2_holder 6 = .ok (.istore 4, 2) := by decide +kernel
theorem dX2_holder_8 : decode cX2_holder 8 = .ok (.iload 4, 2) := by decide +kernel
theorem dX2_holder_10 : decode cX2_holder 10 = .ok (.iconst 5, 1) := by decide +kernel
theorem dX2_holder_11 : decode cX2_holder 11 = .ok (.if_icmp .ge 39, 3) := by decide +kernel
theorem dX2_holder_14 : decode cX2_holder 14 = .ok (.aload_n 0, 1) := by decide +kernel
theorem dX2_holder_15 : decode cX2_holder 15 = .ok (.getfield 11, 3) := by decide +kernel
theorem dX2_holder_18 : decode cX2_holder 18 = .ok (.iload_n 1, 1) := by decide +kernel
theorem dX2_holder_19 : decode cX2_holder 19 = .ok (.iconst 5, 1) := by decide +kernel
theorem dX2_holder_20 : decode cX2_holder 20 = .ok (.imul, 1) := by decide +kernel
theorem dX2_holder_21 : decode cX2_holder 21 = .ok (.iload 4, 2) := by decide +kernel
theorem dX2_holder_23 : decode cX2_holder 23 = .ok (.iadd, 1) := by decide +kernel
theorem dX2_holder_24 : decode cX2_holder 24 = .ok (.iaload, 1) := by decide +kernel
theorem dX2_holder_25 : decode cX2_holder 25 = .ok (.iload_n 3, 1) := by decide +kernel
theorem dX2_holder_26 : decode cX2_holder 26 = .ok (.if_icmp .le 18, 3) := by decide +kernel
theorem dX2_holder_29 : decode cX2_holder 29 = .ok (.aload_n 0, 1) := by decide +kernel
theorem dX2_holder_30 : decode cX2_holder 30 = .ok (.getfield 11, 3) := by decide +kernel
theorem dX2_holder_33 : decode cX2_holder 33 = .ok (.iload_n 1, 1) := by decide +kernel
theorem dX2_holder_34 : decode cX2_holder 34 = .ok (.iconst 5, 1) := by decide +kernel
theorem dX2_holder_35 : decode cX2_holder 35 = .ok (.imul, 1) := by decide +kernel
theorem dX2_holder_36 : decode cX2_holder 36 = .ok (.iload 4, 2) := by decide +kernel
theorem dX2_holder_38 : decode cX2_holder 38 = .ok (.iadd, 1) := by decide +kernel
theorem dX2_holder_39 : decode cX2_holder 39 = .ok (.iaload, 1) := by decide +kernel
theorem dX2_holder_40 : decode cX2_holder 40 = .ok (.istore_n 3, 1) := by decide +kernel
theorem dX2_holder_41 : decode cX2_holder 41 = .ok (.iload 4, 2) := by decide +kernel
theorem dX2_holder_43 : decode cX2_holder 43 = .ok (.istore_n 2, 1) := by decide +kernel
theorem dX2_holder_44 : decode cX2_holder 44 = .ok (.iinc 4 1, 3) := by decide +kernel
theorem dX2_holder_47 : decode cX2_holder 47 = .ok (.goto (-39), 3) := by decide +kernel
theorem dX2_holder_50 : decode cX2_holder 50 = .ok (.iload_n 2, 1) := by decide +kernel
theorem dX2_holder_51 : decode cX2_holder 51 = .ok (.ireturn, 1) := by decide +kernel
theorem dX2_seatsOf_0 : decode cX2_seatsOf 0 = .ok (.iconst 0, 1) := by decide +kernel
theorem dX2_seatsOf_1 : decode cX2_seatsOf 1 = .ok (.istore_n 2, 1) := by decide +kernel
theorem dX2_seatsOf_2 : decode cX2_seatsOf 2 = .ok (.iconst 0, 1) := by decide +kernel
theorem dX2_seatsOf_3 : decode cX2_seatsOf 3 = .ok (.istore_n 3, 1) := by decide +kernel
theorem dX2_seatsOf_4 : decode cX2_seatsOf 4 = .ok (.iload_n 3, 1) := by decide +kernel
theorem dX2_seatsOf_5 : decode cX2_seatsOf 5 = .ok (.iconst 4, 1) := by decide +kernel
theorem dX2_seatsOf_6 : decode cX2_seatsOf 6 = .ok (.if_icmp .ge 26, 3) := by decide +kernel
theorem dX2_seatsOf_9 : decode cX2_seatsOf 9 = .ok (.iload_n 2, 1) := by decide +kernel
theorem dX2_seatsOf_10 : decode cX2_seatsOf 10 = .ok (.aload_n 0, 1) := by decide +kernel
theorem dX2_seatsOf_11 : decode cX2_seatsOf 11 = .ok (.iload_n 3, 1) := by decide +kernel
theorem dX2_seatsOf_12 : decode cX2_seatsOf 12 = .ok (.invokevirtual 39, 3) := by decide +kernel
theorem dX2_seatsOf_15 : decode cX2_seatsOf 15 = .ok (.iload_n 1, 1) := by decide +kernel
theorem dX2_seatsOf_16 : decode cX2_seatsOf 16 = .ok (.if_icmp .ne 7, 3) := by decide +kernel
theorem dX2_seatsOf_19 : decode cX2_seatsOf 19 = .ok (.iconst 1, 1) := by decide +kernel
theorem dX2_seatsOf_20 : decode cX2_seatsOf 20 = .ok (.goto 4, 3) := by decide +kernel
theorem dX2_seatsOf_23 : decode cX2_seatsOf 23 = .ok (.iconst 0, 1) := by decide +kernel
theorem dX2_seatsOf_24 : decode cX2_seatsOf 24 = .ok (.iadd, 1) := by decide +kernel
theorem dX2_seatsOf_25 : decode cX2_seatsOf 25 = .ok (.istore_n 2, 1) := by decide +kernel
theorem dX2_seatsOf_26 : decode cX2_seatsOf 26 = .ok (.iinc 3 1, 3) := by decide +kernel
theorem dX2_seatsOf_29 : decode cX2_seatsOf 29 = .ok (.goto (-25), 3) := by decide +kernel
theorem dX2_seatsOf_32 : decode cX2_seatsOf 32 = .ok (.iload_n 2, 1) := by decide +kernel
theorem dX2_seatsOf_33 : decode cX2_seatsOf 33 = .ok (.ireturn, 1) := by decide +kernel
theorem dX3_init_0 : decode cX3_init 0 = .ok (.aload_n 0, 1) := by decide +kernel
theorem dX3_init_1 : decode cX3_init 1 = .ok (.invokespecial 1, 3) := by decide +kernel
theorem dX3_init_4 : decode cX3_init 4 = .ok (.aload_n 0, 1) := by decide +kernel
theorem dX3_init_5 : decode cX3_init 5 = .ok (.sipush 200, 3) := by decide +kernel
theorem dX3_init_8 : decode cX3_init 8 = .ok (.newarray .int, 2) := by decide +kernel
theorem dX3_init_10 : decode cX3_init 10 = .ok (.putfield 9, 3) := by decide +kernel
theorem dX3_init_13 : decode cX3_init 13 = .ok (.aload_n 0, 1) := by decide +kernel
theorem dX3_init_14 : decode cX3_init 14 = .ok (.sipush 200, 3) := by decide +kernel
theorem dX3_init_17 : decode cX3_init 17 = .ok (.newarray .int, 2) := by decide +kernel
theorem dX3_init_19 : decode cX3_init 19 = .ok (.putfield 13, 3) := by decide +kernel
theorem dX3_init_22 : decode cX3_init 22 = .ok (.aload_n 0, 1) := by decide +kernel
theorem dX3_init_23 : decode cX3_init 23 = .ok (.bipush 14, 2) := by decide +kernel
theorem dX3_init_25 : decode cX3_init 25 = .ok (.newarray .int, 2) := by decide +kernel
theorem dX3_init_27 : decode cX3_init 27 = .ok (.putfield 16, 3) := by decide +kernel
theorem dX3_init_30 : decode cX3_init 30 = .ok (.aload_n 0, 1) := by decide +kernel
theorem dX3_init_31 : decode cX3_init 31 = .ok (.bipush 14, 2) := by decide +kernel
theorem dX3_init_33 : decode cX3_init 33 = .ok (.newarray .int, 2) := by decide +kernel
theorem dX3_init_35 : decode cX3_init 35 = .ok (.putfield 19, 3) := by decide +kernel
theorem dX3_init_38 : decode cX3_init 38 = .ok (.aload_n 0, 1) := by decide +kernel
theorem dX3_init_39 : decode cX3_init 39 = .ok (.bipush 14, 2) := by decide +kernel
theorem dX3_init_41 : decode cX3_init 41 = .ok (.newarray .int, 2) := by decide +kernel
theorem dX3_init_43 : decode cX3_init 43 = .ok (.putfield 22, 3) := by decide +kernel
theorem dX3_init_46 : decode cX3_init 46 = .ok (.aload_n 0, 1) := by decide +kernel
theorem dX3_init_47 : decode cX3_init 47 = .ok (.bipush 14, 2) := by decide +kernel
theorem dX3_init_49 : decode cX3_init 49 = .ok (.newarray .int, 2) := by decide +kernel
theorem dX3_init_51 : decode cX3_init 51 = .ok (.putfield 25, 3) := by decide +kernel
theorem dX3_init_54 : decode cX3_init 54 = .ok (.aload_n 0, 1) := by decide +kernel
theorem dX3_init_55 : decode cX3_init 55 = .ok (.bipush 10, 2) := by decide +kernel
theorem dX3_init_57 : decode cX3_init 57 = .ok (.newarray .int, 2) := by decide +kernel
theorem dX3_init_59 : decode cX3_init 59 = .ok (.putfield 28, 3) := by decide +kernel
theorem dX3_init_62 : decode cX3_init 62 = .ok (.aload_n 0, 1) := by decide +kernel
theorem dX3_init_63 : decode cX3_init 63 = .ok (.bipush 10, 2) := by decide +kernel
theorem dX3_init_65 : decode cX3_init 65 = .ok (.newarray .int, 2) := by decide +kernel
theorem dX3_init_67 : decode cX3_init 67 = .ok (.putfield 31, 3) := by decide +kernel
theorem dX3_init_70 : decode cX3_init 70 = .ok (.aload_n 0, 1) := by decide +kernel
theorem dX3_init_71 : decode cX3_init 71 = .ok (.bipush 32, 2) := by decide +kernel
theorem dX3_init_73 : decode cX3_init 73 = .ok (.newarray .int, 2) := by decide +kernel
theorem dX3_init_75 : decode cX3_init 75 = .ok (.putfield 34, 3) := by decide +kernel
theorem dX3_init_78 : decode cX3_init 78 = .ok (.return_, 1) := by decide +kernel
theorem dX3_clear_0 : decode cX3_clear 0 = .ok (.aload_n 0, 1) := by decide +kernel
theorem dX3_clear_1 : decode cX3_clear 1 = .ok (.iconst 0, 1) := by decide +kernel
theorem dX3_clear_2 : decode cX3_clear 2 = .ok (.putfield 37, 3) := by decide +kernel
theorem dX3_clear_5 : decode cX3_clear 5 = .ok (.aload_n 0, 1) := by decide +kernel
theorem dX3_clear_6 : decode cX3_clear 6 = .ok (.iconst 0, 1) := by decide +kernel
theorem dX3_clear_7 : decode cX3_clear 7 = .ok (.putfield 41, 3) := by decide +kernel
theorem dX3_clear_10 : decode cX3_clear 10 = .ok (.iconst 0, 1) := by decide +kernel
theorem dX3_clear_11 : decode cX3_clear 11 = .ok (.istore_n 1, 1) := by decide +kernel
theorem dX3_clear_12 : decode cX3_clear 12 = .ok (.iload_n 1, 1) := by decide +kernel
theorem dX3_clear_13 : decode cX3_clear 13 = .ok (.bipush 10, 2) := by decide +kernel
theorem dX3_clear_15 : decode cX3_clear 15 = .ok (.if_icmp .ge 16, 3) := by decide +kernel
theorem dX3_clear_18 : decode cX3_clear 18 = .ok (.aload_n 0, 1) := by decide +kernel
theorem dX3_clear_19 : decode cX3_clear 19 = .ok (.getfield 31, 3) := by decide +kernel
theorem dX3_clear_22 : decode cX3_clear 22 = .ok (.iload_n 1, 1) := by decide +kernel
theorem dX3_clear_23 : decode cX3_clear 23 = .ok (.iconst 0, 1) := by decide +kernel
theorem dX3_clear_24 : decode cX3_clear 24 = .ok (.iastore, 1) := by decide +kernel
theorem dX3_clear_25 : decode cX3_clear 25 = .ok (.iinc 1 1, 3) := by decide +kernel
theorem dX3_clear_28 : decode cX3_clear 28 = .ok (.goto (-16), 3) := by decide +kernel
theorem dX3_clear_31 : decode cX3_clear 31 = .ok (.return_, 1) := by decide +kernel
theorem dX3_add_0 : decode cX3_add 0 = .ok (.aload_n 0, 1) := by decide +kernel
theorem dX3_add_1 : decode cX3_add 1 = .ok (.getfield 37, 3) := by decide +kernel
theorem dX3_add_4 : decode cX3_add 4 = .ok (.sipush 200, 3) := by decide +kernel
theorem dX3_add_7 : decode cX3_add 7 = .ok (.if_icmp .ge 33, 3) := by decide +kernel
theorem dX3_add_10 : decode cX3_add 10 = .ok (.aload_n 0, 1) := by decide +kernel
theorem dX3_add_11 : decode cX3_add 11 = .ok (.getfield 9, 3) := by decide +kernel
theorem dX3_add_14 : decode cX3_add 14 = .ok (.aload_n 0, 1) := by decide +kernel
theorem dX3_add_15 : decode cX3_add 15 = .ok (.getfield 37, 3) := by decide +kernel
theorem dX3_add_18 : decode cX3_add 18 = .ok (.iload_n 1, 1) := by decide +kernel
theorem dX3_add_19 : decode cX3_add 19 = .ok (.iastore, 1) := by decide +kernel
theorem dX3_add_20 : decode cX3_add 20 = .ok (.aload_n 0, 1) := by decide +kernel
theorem dX3_add_21 : decode cX3_add 21 = .ok (.getfield 13, 3) := by decide +kernel
theorem dX3_add_24 : decode cX3_add 24 = .ok (.aload_n 0, 1) := by decide +kernel
theorem dX3_add_25 : decode cX3_add 25 = .ok (.getfield 37, 3) := by decide +kernel
theorem dX3_add_28 : decode cX3_add 28 = .ok (.iload_n 2, 1) := by decide +kernel
theorem dX3_add_29 : decode cX3_add 29 = .ok (.iastore, 1) := by decide +kernel
theorem dX3_add_30 : decode cX3_add 30 = .ok (.aload_n 0, 1) := by decide +kernel
theorem dX3_add_31 : decode cX3_add 31 = .ok (.dup, 1) := by decide +kernel
theorem dX3_add_32 : decode cX3_add 32 = .ok (.getfield 37, 3) := by decide +kernel
theorem dX3_add_35 : decode cX3_add 35 = .ok (.iconst 1, 1) := by decide +kernel
theorem dX3_add_36 : decode cX3_add 36 = .ok (.iadd, 1) := by decide +kernel
theorem dX3_add_37 : decode cX3_add 37 = .ok (.putfield 37, 3) := by decide +kernel
theorem dX3_add_40 : decode cX3_add 40 = .ok (.return_, 1) := by decide +kernel
theorem dX3_landJumps_0 : decode cX3_landJumps 0 = .ok (.iload_n 1, 1) := by decide +kernel
theorem dX3_landJumps_1 : decode cX3_landJumps 1 = .ok (.istore_n 3, 1) := by decide +kernel
theorem dX3_landJumps_2 : decode cX3_landJumps 2 = .ok (.iload_n 3, 1) := by decide +kernel
theorem dX3_landJumps_3 : decode cX3_landJumps 3 = .ok (.aload_n 0, 1) := by decide +kernel
theorem dX3_landJumps_4 : decode cX3_landJumps 4 = .ok (.getfield 37, 3) := by decide +kernel
theorem dX3_landJumps_7 : decode cX3_landJumps 7 = .ok (.if_icmp .ge 39, 3) := by decide +kernel
theorem dX3_landJumps_10 : decode cX3_landJumps 10 = .ok (.aload_n 0, 1) := by decide +kernel
theorem dX3_landJumps_11 : decode cX3_landJumps 11 = .ok (.getfield 9, 3) := by decide +kernel
theorem dX3_landJumps_14 : decode cX3_landJumps 14 = .ok (.iload_n 3, 1) := by decide +kernel
theorem dX3_landJumps_15 : decode cX3_landJumps 15 = .ok (.iaload, 1) := by decide +kernel
theorem dX3_landJumps_16 : decode cX3_landJumps 16 = .ok (.iload_n 2, 1) := by decide +kernel
theorem dX3_landJumps_17 : decode cX3_landJumps 17 = .ok (.if_icmp .ne 23, 3) := by decide +kernel
theorem dX3_landJumps_20 : decode cX3_landJumps 20 = .ok (.aload_n 0, 1) := by decide +kernel
theorem dX3_landJumps_21 : decode cX3_landJumps 21 = .ok (.getfield 13, 3) := by decide +kernel
theorem dX3_landJumps_24 : decode cX3_landJumps 24 = .ok (.iload_n 3, 1) := by decide +kernel
theorem dX3_landJumps_25 : decode cX3_landJumps 25 = .ok (.iaload, 1) := by decide +kernel
theorem dX3_landJumps_26 : decode cX3_landJumps 26 = .ok (.iconst (-1), 1) := by decide +kernel
theorem dX3_landJumps_27 : decode cX3_landJumps 27 = .ok (.if_icmp .ne 13, 3) := by decide +kernel
theorem dX3_landJumps_30 : decode cX3_landJumps 30 = .ok (.aload_n 0, 1) := by decide +kernel
theorem dX3_landJumps_31 : decode cX3_landJumps 31 = .ok (.getfield 13, 3) := by decide +kernel
theorem dX3_landJumps_34 : decode cX3_landJumps 34 = .ok (.iload_n 3, 1) := by decide +kernel
theorem dX3_landJumps_35 : decode cX3_landJumps 35 = .ok (.aload_n 0, 1) := by decide +kernel
theorem dX3_landJumps_36 : decode cX3_landJumps 36 = .ok (.getfield 37, 3) := by decide +kernel
theorem dX3_landJumps_39 : decode cX3_landJumps 39 = .ok (.iastore, 1) := by decide +kernel
theorem dX3_landJumps_40 : decode cX3_landJumps 40 = .ok (.iinc 3 1, 3) := by decide +kernel
theorem dX3_landJumps_43 : decode cX3_landJumps 43 = .ok (.goto (-41), 3) := by decide +kernel
theorem dX3_landJumps_46 : decode cX3_landJumps 46 = .ok (.return_, 1) := by decide +kernel
theorem dX3_addClause_0 : decode cX3_addClause 0 = .ok (.aload_n 0, 1) := by decide +kernel
theorem dX3_addClause_1 : decode cX3_addClause 1 = .ok (.getfield 41, 3) := by decide +kernel
theorem dX3_addClause_4 : decode cX3_addClause 4 = .ok (.bipush 14, 2) := by decide +kernel
theorem dX3_addClause_6 : decode cX3_addClause 6 = .ok (.if_icmp .ge 56, 3) := by decide +kernel
theorem dX3_addClause_9 : decode cX3_addClause 9 = .ok (.aload_n 0, 1) := by decide +kernel
theorem dX3_addClause_10 : decode cX3_addClause 10 = .ok (.getfield 16, 3) := by decide +kernel
theorem dX3_addClause_13 : decode cX3_addClause 13 = .ok (.aload_n 0, 1) := by decide +kernel
theorem dX3_addClause_14 : decode cX3_addClause 14 = .ok (.getfield 41, 3) := by decide +kernel
theorem dX3_addClause_17 : decode cX3_addClause 17 = .ok (.iload_n 1, 1) := by decide +kernel
theorem dX3_addClause_18 : decode cX3_addClause 18 = .ok (.iastore, 1) := by decide +kernel
theorem dX3_addClause_19 : decode cX3_addClause 19 = .ok (.aload_n 0, 1) := by decide +kernel
theorem dX3_addClause_20 : decode cX3_addClause 20 = .ok (.getfield 19, 3) := by decide +kernel
theorem dX3_addClause_23 : decode cX3_addClause 23 = .ok (.aload_n 0, 1) := by decide +kernel
theorem dX3_addClause_24 : decode cX3_addClause 24 = .ok (.getfield 41, 3) := by decide +kernel
theorem dX3_addClause_27 : decode cX3_addClause 27 = .ok (.iload_n 2, 1) := by decide +kernel
theorem dX3_addClause_28 : decode cX3_addClause 28 = .ok (.iastore, 1) := by decide +kernel
theorem dX3_addClause_29 : decode cX3_addClause 29 = .ok (.aload_n 0, 1) := by decide +kernel
theorem dX3_addClause_30 : decode cX3_addClause 30 = .ok (.getfield 22, 3) := by decide +kernel
theorem dX3_addClause_33 : decode cX3_addClause 33 = .ok (.aload_n 0, 1) := by decide +kernel
theorem dX3_addClause_34 : decode cX3_addClause 34 = .ok (.getfield 41, 3) := by decide +kernel
theorem dX3_addClause_37 : decode cX3_addClause 37 = .ok (.iload_n 3, 1) := by decide +kernel
theorem dX3_addClause_38 : decode cX3_addClause 38 = .ok (.iastore, 1) := by decide +kernel
theorem dX3_addClause_39 : decode cX3_addClause 39 = .ok (.aload_n 0, 1) := by decide +kernel
theorem dX3_addClause_40 : decode cX3_addClause 40 = .ok (.getfield 25, 3) := by decide +kernel
theorem dX3_addClause_43 : decode cX3_addClause 43 = .ok (.aload_n 0, 1) := by decide +kernel
theorem dX3_addClause_44 : decode cX3_addClause 44 = .ok (.getfield 41, 3) := by decide +kernel
theorem dX3_addClause_47 : decode cX3_addClause 47 = .ok (.aload_n 0, 1) := by decide +kernel
theorem dX3_addClause_48 : decode cX3_addClause 48 = .ok (.getfield 37, 3) := by decide +kernel
theorem dX3_addClause_51 : decode cX3_addClause 51 = .ok (.iastore, 1) := by decide +kernel
theorem dX3_addClause_52 : decode cX3_addClause 52 = .ok (.aload_n 0, 1) := by decide +kernel
theorem dX3_addClause_53 : decode cX3_addClause 53 = .ok (.dup, 1) := by decide +kernel
theorem dX3_addClause_54 : decode cX3_addClause 54 = .ok (.getfield 41, 3) := by decide +kernel
theorem dX3_addClause_57 : decode cX3_addClause 57 = .ok (.iconst 1, 1) := by decide +kernel
theorem dX3_addClause_58 : decode cX3_addClause 58 = .ok (.iadd, 1) := by decide +kernel
theorem dX3_addClause_59 : decode cX3_addClause 59 = .ok (.putfield 41, 3) := by decide +kernel
theorem dX3_addClause_62 : decode cX3_addClause 62 = .ok (.iload_n 2, 1) := by decide +kernel
theorem dX3_addClause_63 : decode cX3_addClause 63 = .ok (.istore 4, 2) := by decide +kernel
theorem dX3_addClause_65 : decode cX3_addClause 65 = .ok (.iload 4, 2) := by decide +kernel
theorem dX3_addClause_67 : decode cX3_addClause 67 = .ok (.aload_n 0, 1) := by decide +kernel
theorem dX3_addClause_68 : decode cX3_addClause 68 = .ok (.getfield 37, 3) := by decide +kernel
theorem dX3_addClause_71 : decode cX3_addClause 71 = .ok (.if_icmp .ge 39, 3) := by decide +kernel
theorem dX3_addClause_74 : decode cX3_addClause 74 = .ok (.iload_n 1, 1) := by decide +kernel
theorem dX3_addClause_75 : decode cX3_addClause 75 = .ok (.bipush 103, 2) := by decide +kernel
theorem dX3_addClause_77 : decode cX3_addClause 77 = .ok (.if_icmp .eq 33, 3) := by decide +kernel
theorem dX3_addClause_80 : decode cX3_addClause 80 = .ok (.aload_n 0, 1) := by decide +kernel
theorem dX3_addClause_81 : decode cX3_addClause 81 = .ok (.getfield 9, 3) := by decide +kernel
theorem dX3_addClause_84 : decode cX3_addClause 84 = .ok (.iload 4, 2) := by decide +kernel
theorem dX3_addClause_86 : decode cX3_addClause 86 = .ok (.iaload, 1) := by decide +kernel
theorem dX3_addClause_87 : decode cX3_addClause 87 = .ok (.iconst 2, 1) := by decide +kernel
theorem dX3_addClause_88 : decode cX3_addClause 88 = .ok (.if_icmp .ne 16, 3) := by decide +kernel
theorem dX3_addClause_91 : decode cX3_addClause 91 = .ok (.aload_n 0, 1) := by decide +kernel
theorem dX3_addClause_92 : decode cX3_addClause 92 = .ok (.getfield 31, 3) := by decide +kernel
theorem dX3_addClause_95 : decode cX3_addClause 95 = .ok (.aload_n 0, 1) := by decide +kernel
theorem dX3_addClause_96 : decode cX3_addClause 96 = .ok (.getfield 13, 3) := by decide +kernel
theorem dX3_addClause_99 : decode cX3_addClause 99 = .ok (.iload 4, 2) := by decide +kernel
theorem dX3_addClause_101 : decode cX3_addClause 101 = .ok (.iaload, 1) := by decide +kernel
theorem dX3_addClause_102 : decode cX3_addClause 102 = .ok (.iconst (-1), 1) := by decide +kernel
theorem dX3_addClause_103 : decode cX3_addClause 103 = .ok (.iastore, 1) := by decide +kernel
theorem dX3_addClause_104 : decode cX3_addClause 104 = .ok (.iinc 4 1, 3) := by decide +kernel
theorem dX3_addClause_107 : decode cX3_addClause 107 = .ok (.goto (-42), 3) := by decide +kernel
theorem dX3_addClause_110 : decode cX3_addClause 110 = .ok (.return_, 1) := by decide +kernel
theorem dX3_looksOf_0 : decode cX3_looksOf 0 = .ok (.aload_n 1, 1) := by decide +kernel
theorem dX3_looksOf_1 : decode cX3_looksOf 1 = .ok (.getfield 44, 3) := by decide +kernel
theorem dX3_looksOf_4 : decode cX3_looksOf 4 = .ok (.aload_n 0, 1) := by decide +kernel
theorem dX3_looksOf_5 : decode cX3_looksOf 5 = .ok (.getfield 31, 3) := by decide +kernel
theorem dX3_looksOf_8 : decode cX3_looksOf 8 = .ok (.iconst 0, 1) := by decide +kernel
theorem dX3_looksOf_9 : decode cX3_looksOf 9 = .ok (.iaload, 1) := by decide +kernel
theorem dX3_looksOf_10 : decode cX3_looksOf 10 = .ok (.iand, 1) := by decide +kernel
theorem dX3_looksOf_11 : decode cX3_looksOf 11 = .ok (.bipush 18, 2) := by decide +kernel
theorem dX3_looksOf_13 : decode cX3_looksOf 13 = .ok (.ishl, 1) := by decide +kernel
theorem dX3_looksOf_14 : decode cX3_looksOf 14 = .ok (.aload_n 1, 1) := by decide +kernel
theorem dX3_looksOf_15 : decode cX3_looksOf 15 = .ok (.getfield 49, 3) := by decide +kernel
theorem dX3_looksOf_18 : decode cX3_looksOf 18 = .ok (.aload_n 0, 1) := by decide +kernel
theorem dX3_looksOf_19 : decode cX3_looksOf 19 = .ok (.getfield 31, 3) := by decide +kernel
theorem dX3_looksOf_22 : decode cX3_looksOf 22 = .ok (.iconst 3, 1) := by decide +kernel
theorem dX3_looksOf_23 : decode cX3_looksOf 23 = .ok (.iaload, 1) := by decide +kernel
theorem dX3_looksOf_24 : decode cX3_looksOf 24 = .ok (.iand, 1) := by decide +kernel
theorem dX3_looksOf_25 : decode cX3_looksOf 25 = .ok (.bipush 8, 2) := by decide +kernel
theorem dX3_looksOf_27 : decode cX3_looksOf 27 = .ok (.ishl, 1) := by decide +kernel
theorem dX3_looksOf_28 : decode cX3_looksOf 28 = .ok (.ior, 1) := by decide +kernel
theorem dX3_looksOf_29 : decode cX3_looksOf 29 = .ok (.istore_n 3, 1) := by decide +kernel
theorem dX3_looksOf_30 : decode cX3_looksOf 30 = .ok (.iload_n 3, 1) := by decide +kernel
theorem dX3_looksOf_31 : decode cX3_looksOf 31 = .ok (.aload_n 1, 1) := by decide +kernel
theorem dX3_looksOf_32 : decode cX3_looksOf 32 = .ok (.getfield 52, 3) := by decide +kernel
theorem dX3_looksOf_35 : decode cX3_looksOf 35 = .ok (.aload_n 0, 1) := by decide +kernel
theorem dX3_looksOf_36 : decode cX3_looksOf 36 = .ok (.getfield 31, 3) := by decide +kernel
theorem dX3_looksOf_39 : decode cX3_looksOf 39 = .ok (.iconst 1, 1) := by decide +kernel
theorem dX3_looksOf_40 : decode cX3_looksOf 40 = .ok (.iaload, 1) := by decide +kernel
theorem dX3_looksOf_41 : decode cX3_looksOf 41 = .ok (.iand, 1) := by decide +kernel
theorem dX3_looksOf_42 : decode cX3_looksOf 42 = .ok (.iconst 1, 1) := by decide +kernel
theorem dX3_looksOf_43 : decode cX3_looksOf 43 = .ok (.ishl, 1) := by decide +kernel
theorem dX3_looksOf_44 : decode cX3_looksOf 44 = .ok (.ior, 1) := by decide +kernel
theorem dX3_looksOf_45 : decode cX3_looksOf 45 = .ok (.iload_n 2, 1) := by decide +kernel
theorem dX3_looksOf_46 : decode cX3_looksOf 46 = .ok (.ifCond .eq 7, 3) := by decide +kernel
theorem dX3_looksOf_49 : decode cX3_looksOf 49 = .ok (.iconst 1, 1) := by decide +kernel
theorem dX3_looksOf_50 : decode cX3_looksOf 50 = .ok (.goto 4, 3) := by decide +kernel
theorem dX3_looksOf_53 : decode cX3_looksOf 53 = .ok (.iconst 0, 1) := by decide +kernel
theorem dX3_looksOf_54 : decode cX3_looksOf 54 = .ok (.aload_n 0, 1) := by decide +kernel
theorem dX3_looksOf_55 : decode cX3_looksOf 55 = .ok (.getfield 31, 3) := by decide +kernel
theorem dX3_looksOf_58 : decode cX3_looksOf 58 = .ok (.iconst 5, 1) := by decide +kernel
theorem dX3_looksOf_59 : decode cX3_looksOf 59 = .ok (.iaload, 1) := by decide +kernel
theorem dX3_looksOf_60 : decode cX3_looksOf 60 = .ok (.iand, 1) := by decide +kernel
theorem dX3_looksOf_61 : decode cX3_looksOf 61 = .ok (.ior, 1) := by decide +kernel
theorem dX3_looksOf_62 : decode cX3_looksOf 62 = .ok (.ireturn, 1) := by decide +kernel
theorem dX3_wouldEat_0 : decode cX3_wouldEat 0 = .ok (.aload_n 0, 1) := by decide +kernel
theorem dX3_wouldEat_1 : decode cX3_wouldEat 1 = .ok (.aload_n 1, 1) := by decide +kernel
theorem dX3_wouldEat_2 : decode cX3_wouldEat 2 = .ok (.iload_n 3, 1) := by decide +kernel
theorem dX3_wouldEat_3 : decode cX3_wouldEat 3 = .ok (.invokevirtual 55, 3) := by decide +kernel
theorem dX3_wouldEat_6 : decode cX3_wouldEat 6 = .ok (.aload_n 0, 1) := by decide +kernel
theorem dX3_wouldEat_7 : decode cX3_wouldEat 7 = .ok (.aload_n 1, 1) := by decide +kernel
theorem dX3_wouldEat_8 : decode cX3_wouldEat 8 = .ok (.getfield 59, 3) := by decide +kernel
theorem dX3_wouldEat_11 : decode cX3_wouldEat 11 = .ok (.iload_n 2, 1) := by decide +kernel
theorem dX3_wouldEat_12 : decode cX3_wouldEat 12 = .ok (.aaload, 1) := by decide +kernel
theorem dX3_wouldEat_13 : decode cX3_wouldEat 13 = .ok (.aload_n 1, 1) := by decide +kernel
theorem dX3_wouldEat_14 : decode cX3_wouldEat 14 = .ok (.getfield 65, 3) := by decide +kernel
theorem dX3_wouldEat_17 : decode cX3_wouldEat 17 = .ok (.iload_n 3, 1) := by decide +kernel
theorem dX3_wouldEat_18 : decode cX3_wouldEat 18 = .ok (.aaload, 1) := by decide +kernel
theorem dX3_wouldEat_19 : decode cX3_wouldEat 19 = .ok (.invokevirtual 69, 3) := by decide +kernel
theorem dX3_wouldEat_22 : decode cX3_wouldEat 22 = .ok (.aload_n 0, 1) := by decide +kernel
theorem dX3_wouldEat_23 : decode cX3_wouldEat 23 = .ok (.bipush 101, 2) := by decide +kernel
theorem dX3_wouldEat_25 : decode cX3_wouldEat 25 = .ok (.sipush 999, 3) := by decide +kernel
theorem dX3_wouldEat_28 : decode cX3_wouldEat 28 = .ok (.invokevirtual 73, 3) := by decide +kernel
theorem dX3_wouldEat_31 : decode cX3_wouldEat 31 = .ok (.istore 4, 2) := by decide +kernel
theorem dX3_wouldEat_33 : decode cX3_wouldEat 33 = .ok (.iconst 0, 1) := by decide +kernel
theorem dX3_wouldEat_34 : decode cX3_wouldEat 34 = .ok (.istore 5, 2) := by decide +kernel
theorem dX3_wouldEat_36 : decode cX3_wouldEat 36 = .ok (.iload 5, 2) := by decide +kernel
theorem dX3_wouldEat_38 : decode cX3_wouldEat 38 = .ok (.aload_n 0, 1) := by decide +kernel
theorem dX3_wouldEat_39 : decode cX3_wouldEat 39 = .ok (.getfield 41, 3) := by decide +kernel
theorem dX3_wouldEat_42 : decode cX3_wouldEat 42 = .ok (.if_icmp .ge 57, 3) := by decide +kernel
theorem dX3_wouldEat_45 : decode cX3_wouldEat 45 = .ok (.iload 4, 2) := by decide +kernel
theorem dX3_wouldEat_47 : decode cX3_wouldEat 47 = .ok (.ifCond .le 52, 3) := by decide +kernel
theorem dX3_wouldEat_50 : decode cX3_wouldEat 50 = .ok (.aload_n 0, 1) := by decide +kernel
theorem dX3_wouldEat_51 : decode cX3_wouldEat 51 = .ok (.getfield 16, 3) := by decide +kernel
theorem dX3_wouldEat_54 : decode cX3_wouldEat 54 = .ok (.iload 5, 2) := by decide +kernel
theorem dX3_wouldEat_56 : decode cX3_wouldEat 56 = .ok (.iaload, 1) := by decide +kernel
theorem dX3_wouldEat_57 : decode cX3_wouldEat 57 = .ok (.bipush 110, 2) := by decide +kernel
theorem dX3_wouldEat_59 : decode cX3_wouldEat 59 = .ok (.if_icmp .ne 34, 3) := by decide +kernel
theorem dX3_wouldEat_62 : decode cX3_wouldEat 62 = .ok (.aload_n 0, 1) := by decide +kernel
theorem dX3_wouldEat_63 : decode cX3_wouldEat 63 = .ok (.aload_n 0, 1) := by decide +kernel
theorem dX3_wouldEat_64 : decode cX3_wouldEat 64 = .ok (.getfield 22, 3) := by decide +kernel
theorem dX3_wouldEat_67 : decode cX3_wouldEat 67 = .ok (.iload 5, 2) := by decide +kernel
theorem dX3_wouldEat_69 : decode cX3_wouldEat 69 = .ok (.iaload, 1) := by decide +kernel
theorem dX3_wouldEat_70 : decode cX3_wouldEat 70 = .ok (.aload_n 0, 1) := by decide +kernel
theorem dX3_wouldEat_71 : decode cX3_wouldEat 71 = .ok (.getfield 25, 3) := by decide +kernel
theorem dX3_wouldEat_74 : decode cX3_wouldEat 74 = .ok (.iload 5, 2) := by decide +kernel
theorem dX3_wouldEat_76 : decode cX3_wouldEat 76 = .ok (.iaload, 1) := by decide +kernel
theorem dX3_wouldEat_77 : decode cX3_wouldEat 77 = .ok (.invokevirtual 77, 3) := by decide +kernel
theorem dX3_wouldEat_80 : decode cX3_wouldEat 80 = .ok (.ifCond .eq 13, 3) := by decide +kernel
theorem dX3_wouldEat_83 : decode cX3_wouldEat 83 = .ok (.aload_n 0, 1) := by decide +kernel
theorem dX3_wouldEat_84 : decode cX3_wouldEat 84 = .ok (.getfield 81, 3) := by decide +kernel
theorem dX3_wouldEat_87 : decode cX3_wouldEat 87 = .ok (.ifCond .eq 6, 3) := by decide +kernel
theorem dX3_wouldEat_90 : decode cX3_wouldEat 90 = .ok (.iconst 0, 1) := by decide +kernel
theorem dX3_wouldEat_91 : decode cX3_wouldEat 91 = .ok (.istore 4, 2) := by decide +kernel
theorem dX3_wouldEat_93 : decode cX3_wouldEat 93 = .ok (.iinc 5 1, 3) := by decide +kernel
theorem dX3_wouldEat_96 : decode cX3_wouldEat 96 = .ok (.goto (-60), 3) := by decide +kernel
theorem dX3_wouldEat_99 : decode cX3_wouldEat 99 = .ok (.iload 4, 2) := by decide +kernel
theorem dX3_wouldEat_101 : decode cX3_wouldEat 101 = .ok (.ireturn, 1) := by decide +kernel
theorem dX3_hotterBy_0 : decode cX3_hotterBy 0 = .ok (.aload_n 0, 1) := by decide +kernel
theorem dX3_hotterBy_1 : decode cX3_hotterBy 1 = .ok (.aload_n 1, 1) := by decide +kernel
theorem dX3_hotterBy_2 : decode cX3_hotterBy 2 = .ok (.iload_n 2, 1) := by decide +kernel
theorem dX3_hotterBy_3 : decode cX3_hotterBy 3 = .ok (.invokevirtual 55, 3) := by decide +kernel
theorem dX3_hotterBy_6 : decode cX3_hotterBy 6 = .ok (.bipush 6, 2) := by decide +kernel
theorem dX3_hotterBy_8 : decode cX3_hotterBy 8 = .ok (.istore_n 3, 1) := by decide +kernel
theorem dX3_hotterBy_9 : decode cX3_hotterBy 9 = .ok (.iload_n 3, 1) := by decide +kernel
theorem dX3_hotterBy_10 : decode cX3_hotterBy 10 = .ok (.bipush 10, 2) := by decide +kernel
theorem dX3_hotterBy_12 : decode cX3_hotterBy 12 = .ok (.if_icmp .ge 16, 3) := by decide +kernel
theorem dX3_hotterBy_15 : decode cX3_hotterBy 15 = .ok (.aload_n 0, 1) := by decide +kernel
theorem dX3_hotterBy_16 : decode cX3_hotterBy 16 = .ok (.getfield 28, 3) := by decide +kernel
theorem dX3_hotterBy_19 : decode cX3_hotterBy 19 = .ok (.iload_n 3, 1) := by decide +kernel
theorem dX3_hotterBy_20 : decode cX3_hotterBy 20 = .ok (.iconst 0, 1) := by decide +kernel
theorem dX3_hotterBy_21 : decode cX3_hotterBy 21 = .ok (.iastore, 1) := by decide +kernel
theorem dX3_hotterBy_22 : decode cX3_hotterBy 22 = .ok (.iinc 3 1, 3) := by decide +kernel
theorem dX3_hotterBy_25 : decode cX3_hotterBy 25 = .ok (.goto (-16), 3) := by decide +kernel
theorem dX3_hotterBy_28 : decode cX3_hotterBy 28 = .ok (.aload_n 0, 1) := by decide +kernel
theorem dX3_hotterBy_29 : decode cX3_hotterBy 29 = .ok (.bipush 103, 2) := by decide +kernel
theorem dX3_hotterBy_31 : decode cX3_hotterBy 31 = .ok (.bipush 99, 2) := by decide +kernel
theorem dX3_hotterBy_33 : decode cX3_hotterBy 33 = .ok (.invokevirtual 73, 3) := by decide +kernel
theorem dX3_hotterBy_36 : decode cX3_hotterBy 36 = .ok (.ireturn, 1) := by decide +kernel
theorem dX3_lookAtStack_0 : decode cX3_lookAtStack 0 = .ok (.aload_n 1, 1) := by decide +kernel
theorem dX3_lookAtStack_1 : decode cX3_lookAtStack 1 = .ok (.getfield 65, 3) := by decide +kernel
theorem dX3_lookAtStack_4 : decode cX3_lookAtStack 4 = .ok (.iload_n 2, 1) := by decide +kernel
theorem dX3_lookAtStack_5 : decode cX3_lookAtStack 5 = .ok (.aaload, 1) := by decide +kernel
theorem dX3_lookAtStack_6 : decode cX3_lookAtStack 6 = .ok (.astore_n 3, 1) := by decide +kernel
theorem dX3_lookAtStack_7 : decode cX3_lookAtStack 7 = .ok (.aload_n 0, 1) := by decide +kernel
theorem dX3_lookAtStack_8 : decode cX3_lookAtStack 8 = .ok (.getfield 28, 3) := by decide +kernel
theorem dX3_lookAtStack_11 : decode cX3_lookAtStack 11 = .ok (.iconst 0, 1) := by decide +kernel
theorem dX3_lookAtStack_12 : decode cX3_lookAtStack 12 = .ok (.aload_n 3, 1) := by decide +kernel
theorem dX3_lookAtStack_13 : decode cX3_lookAtStack 13 = .ok (.getfield 44, 3) := by decide +kernel
theorem dX3_lookAtStack_16 : decode cX3_lookAtStack 16 = .ok (.iastore, 1) := by decide +kernel
theorem dX3_lookAtStack_17 : decode cX3_lookAtStack 17 = .ok (.aload_n 0, 1) := by decide +kernel
theorem dX3_lookAtStack_18 : decode cX3_lookAtStack 18 = .ok (.getfield 28, 3) := by decide +kernel
theorem dX3_lookAtStack_21 : decode cX3_lookAtStack 21 = .ok (.iconst 1, 1) := by decide +kernel
theorem dX3_lookAtStack_22 : decode cX3_lookAtStack 22 = .ok (.aload_n 3, 1) := by decide +kernel
theorem dX3_lookAtStack_23 : decode cX3_lookAtStack 23 = .ok (.getfield 52, 3) := by decide +kernel
theorem dX3_lookAtStack_26 : decode cX3_lookAtStack 26 = .ok (.iastore, 1) := by decide +kernel
theorem dX3_lookAtStack_27 : decode cX3_lookAtStack 27 = .ok (.aload_n 0, 1) := by decide +kernel
theorem dX3_lookAtStack_28 : decode cX3_lookAtStack 28 = .ok (.getfield 28, 3) := by decide +kernel
theorem dX3_lookAtStack_31 : decode cX3_lookAtStack 31 = .ok (.iconst 2, 1) := by decide +kernel
theorem dX3_lookAtStack_32 : decode cX3_lookAtStack 32 = .ok (.aload_n 3, 1) := by decide +kernel
theorem dX3_lookAtStack_33 : decode cX3_lookAtStack 33 = .ok (.getfield 85, 3) := by decide +kernel
theorem dX3_lookAtStack_36 : decode cX3_lookAtStack 36 = .ok (.iastore, 1) := by decide +kernel
theorem dX3_lookAtStack_37 : decode cX3_lookAtStack 37 = .ok (.aload_n 0, 1) := by decide +kernel
theorem dX3_lookAtStack_38 : decode cX3_lookAtStack 38 = .ok (.getfield 28, 3) := by decide +kernel
theorem dX3_lookAtStack_41 : decode cX3_lookAtStack 41 = .ok (.iconst 3, 1) := by decide +kernel
theorem dX3_lookAtStack_42 : decode cX3_lookAtStack 42 = .ok (.aload_n 3, 1) := by decide +kernel
theorem dX3_lookAtStack_43 : decode cX3_lookAtStack 43 = .ok (.getfield 49, 3) := by decide +kernel
theorem dX3_lookAtStack_46 : decode cX3_lookAtStack 46 = .ok (.iastore, 1) := by decide +kernel
theorem dX3_lookAtStack_47 : decode cX3_lookAtStack 47 = .ok (.aload_n 0, 1) := by decide +kernel
theorem dX3_lookAtStack_48 : decode cX3_lookAtStack 48 = .ok (.getfield 28, 3) := by decide +kernel
theorem dX3_lookAtStack_51 : decode cX3_lookAtStack 51 = .ok (.iconst 4, 1) := by decide +kernel
theorem dX3_lookAtStack_52 : decode cX3_lookAtStack 52 = .ok (.aload_n 3, 1) := by decide +kernel
theorem dX3_lookAtStack_53 : decode cX3_lookAtStack 53 = .ok (.getfield 88, 3) := by decide +kernel
theorem dX3_lookAtStack_56 : decode cX3_lookAtStack 56 = .ok (.iastore, 1) := by decide +kernel
theorem dX3_lookAtStack_57 : decode cX3_lookAtStack 57 = .ok (.aload_n 0, 1) := by decide +kernel
theorem dX3_lookAtStack_58 : decode cX3_lookAtStack 58 = .ok (.getfield 28, 3) := by decide +kernel
theorem dX3_lookAtStack_61 : decode cX3_lookAtStack 61 = .ok (.iconst 5, 1) := by decide +kernel
theorem dX3_lookAtStack_62 : decode cX3_lookAtStack 62 = .ok (.aload_n 1, 1) := by decide +kernel
theorem dX3_lookAtStack_63 : decode cX3_lookAtStack 63 = .ok (.iload_n 2, 1) := by decide +kernel
theorem dX3_lookAtStack_64 : decode cX3_lookAtStack 64 = .ok (.invokevirtual 91, 3) := by decide +kernel
theorem dX3_lookAtStack_67 : decode cX3_lookAtStack 67 = .ok (.ifCond .eq 7, 3) := by decide +kernel
theorem dX3_lookAtStack_70 : decode cX3_lookAtStack 70 = .ok (.iconst 1, 1) := by decide +kernel
theorem dX3_lookAtStack_71 : decode cX3_lookAtStack 71 = .ok (.goto 4, 3) := by decide +kernel
theorem dX3_lookAtStack_74 : decode cX3_lookAtStack 74 = .ok (.iconst 0, 1) := by decide +kernel
theorem dX3_lookAtStack_75 : decode cX3_lookAtStack 75 = .ok (.iastore, 1) := by decide +kernel
theorem dX3_lookAtStack_76 : decode cX3_lookAtStack 76 = .ok (.return_, 1) := by decide +kernel
theorem dX3_lookAtCow_0 : decode cX3_lookAtCow 0 = .ok (.aload_n 0, 1) := by decide +kernel
theorem dX3_lookAtCow_1 : decode cX3_lookAtCow 1 = .ok (.getfield 28, 3) := by decide +kernel
theorem dX3_lookAtCow_4 : decode cX3_lookAtCow 4 = .ok (.bipush 6, 2) := by decide +kernel
theorem dX3_lookAtCow_6 : decode cX3_lookAtCow 6 = .ok (.aload_n 1, 1) := by decide +kernel
theorem dX3_lookAtCow_7 : decode cX3_lookAtCow 7 = .ok (.getfield 95, 3) := by decide +kernel
theorem dX3_lookAtCow_10 : decode cX3_lookAtCow 10 = .ok (.aload_n 2, 1) := by decide +kernel
theorem dX3_lookAtCow_11 : decode cX3_lookAtCow 11 = .ok (.getfield 88, 3) := by decide +kernel
theorem dX3_lookAtCow_14 : decode cX3_lookAtCow 14 = .ok (.iaload, 1) := by decide +kernel
theorem dX3_lookAtCow_15 : decode cX3_lookAtCow 15 = .ok (.iastore, 1) := by decide +kernel
theorem dX3_lookAtCow_16 : decode cX3_lookAtCow 16 = .ok (.aload_n 0, 1) := by decide +kernel
theorem dX3_lookAtCow_17 : decode cX3_lookAtCow 17 = .ok (.getfield 28, 3) := by decide +kernel
theorem dX3_lookAtCow_20 : decode cX3_lookAtCow 20 = .ok (.bipush 7, 2) := by decide +kernel
theorem dX3_lookAtCow_22 : decode cX3_lookAtCow 22 = .ok (.aload_n 1, 1) := by decide +kernel
theorem dX3_lookAtCow_23 : decode cX3_lookAtCow 23 = .ok (.getfield 100, 3) := by decide +kernel
theorem dX3_lookAtCow_26 : decode cX3_lookAtCow 26 = .ok (.aload_n 2, 1) := by decide +kernel
theorem dX3_lookAtCow_27 : decode cX3_lookAtCow 27 = .ok (.getfield 103, 3) := by decide +kernel
theorem dX3_lookAtCow_30 : decode cX3_lookAtCow 30 = .ok (.isub, 1) := by decide +kernel
theorem dX3_lookAtCow_31 : decode cX3_lookAtCow 31 = .ok (.invokestatic 104, 3) := by decide +kernel
theorem dX3_lookAtCow_34 : decode cX3_lookAtCow 34 = .ok (.aload_n 1, 1) := by decide +kernel
theorem dX3_lookAtCow_35 : decode cX3_lookAtCow 35 = .ok (.getfield 110, 3) := by decide +kernel
theorem dX3_lookAtCow_38 : decode cX3_lookAtCow 38 = .ok (.aload_n 2, 1) := by decide +kernel
theorem dX3_lookAtCow_39 : decode cX3_lookAtCow 39 = .ok (.getfield 113, 3) := by decide +kernel
theorem dX3_lookAtCow_42 : decode cX3_lookAtCow 42 = .ok (.isub, 1) := by decide +kernel
theorem dX3_lookAtCow_43 : decode cX3_lookAtCow 43 = .ok (.invokestatic 104, 3) := by decide +kernel
theorem dX3_lookAtCow_46 : decode cX3_lookAtCow 46 = .ok (.iadd, 1) := by decide +kernel
theorem dX3_lookAtCow_47 : decode cX3_lookAtCow 47 = .ok (.iastore, 1) := by decide +kernel
theorem dX3_lookAtCow_48 : decode cX3_lookAtCow 48 = .ok (.aload_n 0, 1) := by decide +kernel
theorem dX3_lookAtCow_49 : decode cX3_lookAtCow 49 = .ok (.getfield 28, 3) := by decide +kernel
theorem dX3_lookAtCow_52 : decode cX3_lookAtCow 52 = .ok (.bipush 8, 2) := by decide +kernel
theorem dX3_lookAtCow_54 : decode cX3_lookAtCow 54 = .ok (.aload_n 1, 1) := by decide +kernel
theorem dX3_lookAtCow_55 : decode cX3_lookAtCow 55 = .ok (.getfield 114, 3) := by decide +kernel
theorem dX3_lookAtCow_58 : decode cX3_lookAtCow 58 = .ok (.iastore, 1) := by decide +kernel
theorem dX3_lookAtCow_59 : decode cX3_lookAtCow 59 = .ok (.aload_n 0, 1) := by decide +kernel
theorem dX3_lookAtCow_60 : decode cX3_lookAtCow 60 = .ok (.getfield 28, 3) := by decide +kernel
theorem dX3_lookAtCow_63 : decode cX3_lookAtCow 63 = .ok (.bipush 9, 2) := by decide +kernel
theorem dX3_lookAtCow_65 : decode cX3_lookAtCow 65 = .ok (.aload_n 1, 1) := by decide +kernel
theorem dX3_lookAtCow_66 : decode cX3_lookAtCow 66 = .ok (.getfield 117, 3) := by decide +kernel
theorem dX3_lookAtCow_69 : decode cX3_lookAtCow 69 = .ok (.iastore, 1) := by decide +kernel
theorem dX3_lookAtCow_70 : decode cX3_lookAtCow 70 = .ok (.return_, 1) := by decide +kernel
theorem dX3_firstValue_0 : decode cX3_firstValue 0 = .ok (.iconst 0, 1) := by decide +kernel
theorem dX3_firstValue_1 : decode cX3_firstValue 1 = .ok (.istore_n 3, 1) := by decide +kernel
theorem dX3_firstValue_2 : decode cX3_firstValue 2 = .ok (.iload_n 3, 1) := by decide +kernel
theorem dX3_firstValue_3 : decode cX3_firstValue 3 = .ok (.aload_n 0, 1) := by decide +kernel
theorem dX3_firstValue_4 : decode cX3_firstValue 4 = .ok (.getfield 41, 3) := by decide +kernel
theorem dX3_firstValue_7 : decode cX3_firstValue 7 = .ok (.if_icmp .ge 85, 3) := by decide +kernel
theorem dX3_firstValue_10 : decode cX3_firstValue 10 = .ok (.aload_n 0, 1) := by decide +kernel
theorem dX3_firstValue_11 : decode cX3_firstValue 11 = .ok (.getfield 16, 3) := by decide +kernel
theorem dX3_firstValue_14 : decode cX3_firstValue 14 = .ok (.iload_n 3, 1) := by decide +kernel
theorem dX3_firstValue_15 : decode cX3_firstValue 15 = .ok (.iaload, 1) := by decide +kernel
theorem dX3_firstValue_16 : decode cX3_firstValue 16 = .ok (.iload_n 1, 1) := by decide +kernel
theorem dX3_firstValue_17 : decode cX3_firstValue 17 = .ok (.if_icmp .ne 69, 3) := by decide +kernel
theorem dX3_firstValue_20 : decode cX3_firstValue 20 = .ok (.aload_n 0, 1) := by decide +kernel
theorem dX3_firstValue_21 : decode cX3_firstValue 21 = .ok (.aload_n 0, 1) := by decide +kernel
theorem dX3_firstValue_22 : decode cX3_firstValue 22 = .ok (.getfield 22, 3) := by decide +kernel
theorem dX3_firstValue_25 : decode cX3_firstValue 25 = .ok (.iload_n 3, 1) := by decide +kernel
theorem dX3_firstValue_26 : decode cX3_firstValue 26 = .ok (.iaload, 1) := by decide +kernel
theorem dX3_firstValue_27 : decode cX3_firstValue 27 = .ok (.aload_n 0, 1) := by decide +kernel
theorem dX3_firstValue_28 : decode cX3_firstValue 28 = .ok (.getfield 25, 3) := by decide +kernel
theorem dX3_firstValue_31 : decode cX3_firstValue 31 = .ok (.iload_n 3, 1) := by decide +kernel
theorem dX3_firstValue_32 : decode cX3_firstValue 32 = .ok (.iaload, 1) := by decide +kernel
theorem dX3_firstValue_33 : decode cX3_firstValue 33 = .ok (.invokevirtual 77, 3) := by decide +kernel
theorem dX3_firstValue_36 : decode cX3_firstValue 36 = .ok (.ifCond .eq 50, 3) := by decide +kernel
theorem dX3_firstValue_39 : decode cX3_firstValue 39 = .ok (.aload_n 0, 1) := by decide +kernel
theorem dX3_firstValue_40 : decode cX3_firstValue 40 = .ok (.getfield 81, 3) := by decide +kernel
theorem dX3_firstValue_43 : decode cX3_firstValue 43 = .ok (.ifCond .eq 43, 3) := by decide +kernel
theorem dX3_firstValue_46 : decode cX3_firstValue 46 = .ok (.aload_n 0, 1) := by decide +kernel
theorem dX3_firstValue_47 : decode cX3_firstValue 47 = .ok (.aload_n 0, 1) := by decide +kernel
theorem dX3_firstValue_48 : decode cX3_firstValue 48 = .ok (.getfield 19, 3) := by decide +kernel
theorem dX3_firstValue_51 : decode cX3_firstValue 51 = .ok (.iload_n 3, 1) := by decide +kernel
theorem dX3_firstValue_52 : decode cX3_firstValue 52 = .ok (.iaload, 1) := by decide +kernel
theorem dX3_firstValue_53 : decode cX3_firstValue 53 = .ok (.aload_n 0, 1) := by decide +kernel
theorem dX3_firstValue_54 : decode cX3_firstValue 54 = .ok (.getfield 22, 3) := by decide +kernel
theorem dX3_firstValue_57 : decode cX3_firstValue 57 = .ok (.iload_n 3, 1) := by decide +kernel
theorem dX3_firstValue_58 : decode cX3_firstValue 58 = .ok (.iaload, 1) := by decide +kernel
theorem dX3_firstValue_59 : decode cX3_firstValue 59 = .ok (.invokevirtual 77, 3) := by decide +kernel
theorem dX3_firstValue_62 : decode cX3_firstValue 62 = .ok (.istore 4, 2) := by decide +kernel
theorem dX3_firstValue_64 : decode cX3_firstValue 64 = .ok (.iload 4, 2) := by decide +kernel
theorem dX3_firstValue_66 : decode cX3_firstValue 66 = .ok (.ifCond .eq 18, 3) := by decide +kernel
theorem dX3_firstValue_69 : decode cX3_firstValue 69 = .ok (.iconst 0, 1) := by decide +kernel
theorem dX3_firstValue_70 : decode cX3_firstValue 70 = .ok (.iload_n 2, 1) := by decide +kernel
theorem dX3_firstValue_71 : decode cX3_firstValue 71 = .ok (.aload_n 0, 1) := by decide +kernel
theorem dX3_firstValue_72 : decode cX3_firstValue 72 = .ok (.getfield 120, 3) := by decide +kernel
theorem dX3_firstValue_75 : decode cX3_firstValue 75 = .ok (.invokestatic 123, 3) := by decide +kernel
theorem dX3_firstValue_78 : decode cX3_firstValue 78 = .ok (.invokestatic 126, 3) := by decide +kernel
theorem dX3_firstValue_81 : decode cX3_firstValue 81 = .ok (.goto 4, 3) := by decide +kernel
theorem dX3_firstValue_84 : decode cX3_firstValue 84 = .ok (.iconst 0, 1) := by decide +kernel
theorem dX3_firstValue_85 : decode cX3_firstValue 85 = .ok (.ireturn, 1) := by decide +kernel
theorem dX3_firstValue_86 : decode cX3_firstValue 86 = .ok (.iinc 3 1, 3) := by decide +kernel
theorem dX3_firstValue_89 : decode cX3_firstValue 89 = .ok (.goto (-87), 3) := by decide +kernel
theorem dX3_firstValue_92 : decode cX3_firstValue 92 = .ok (.iconst 0, 1) := by decide +kernel
theorem dX3_firstValue_93 : decode cX3_firstValue 93 = .ok (.ireturn, 1) := by decide +kernel
theorem dX3_reckon_0 : decode cX3_reckon 0 = .ok (.iconst 0, 1) := by decide +kernel
theorem dX3_reckon_1 : decode cX3_reckon 1 = .ok (.istore_n 3, 1) := by decide +kernel
theorem dX3_reckon_2 : decode cX3_reckon 2 = .ok (.iconst 0, 1) := by decide +kernel
theorem dX3_reckon_3 : decode cX3_reckon 3 = .ok (.istore 4, 2) := by decide +kernel
theorem dX3_reckon_5 : decode cX3_reckon 5 = .ok (.iload_n 1, 1) := by decide +kernel
theorem dX3_reckon_6 : decode cX3_reckon 6 = .ok (.istore 5, 2) := by decide +kernel
theorem dX3_reckon_8 : decode cX3_reckon 8 = .ok (.iconst 0, 1) := by decide +kernel
theorem dX3_reckon_9 : decode cX3_reckon 9 = .ok (.istore 6, 2) := by decide +kernel
theorem dX3_reckon_11 : decode cX3_reckon 11 = .ok (.iload 6, 2) := by decide +kernel
theorem dX3_reckon_13 : decode cX3_reckon 13 = .ok (.sipush 200, 3) := by decide +kernel
theorem dX3_reckon_16 : decode cX3_reckon 16 = .ok (.if_icmp .ge 394, 3) := by decide +kernel
theorem dX3_reckon_19 : decode cX3_reckon 19 = .ok (.iload 5, 2) := by decide +kernel
theorem dX3_reckon_21 : decode cX3_reckon 21 = .ok (.iload_n 2, 1) := by decide +kernel
theorem dX3_reckon_22 : decode cX3_reckon 22 = .ok (.if_icmp .ge 388, 3) := by decide +kernel
theorem dX3_reckon_25 : decode cX3_reckon 25 = .ok (.aload_n 0, 1) := by decide +kernel
theorem dX3_reckon_26 : decode cX3_reckon 26 = .ok (.getfield 9, 3) := by decide +kernel
theorem dX3_reckon_29 : decode cX3_reckon 29 = .ok (.iload 5, 2) := by decide +kernel
theorem dX3_reckon_31 : decode cX3_reckon 31 = .ok (.iaload, 1) := by decide +kernel
theorem dX3_reckon_32 : decode cX3_reckon 32 = .ok (.istore 7, 2) := by decide +kernel
theorem dX3_reckon_34 : decode cX3_reckon 34 = .ok (.aload_n 0, 1) := by decide +kernel
theorem dX3_reckon_35 : decode cX3_reckon 35 = .ok (.getfield 13, 3) := by decide +kernel
theorem dX3_reckon_38 : decode cX3_reckon 38 = .ok (.iload 5, 2) := by decide +kernel
theorem dX3_reckon_40 : decode cX3_reckon 40 = .ok (.iaload, 1) := by decide +kernel
theorem dX3_reckon_41 : decode cX3_reckon 41 = .ok (.istore 8, 2) := by decide +kernel
theorem dX3_reckon_43 : decode cX3_reckon 43 = .ok (.iinc 5 1, 3) := by decide +kernel
theorem dX3_reckon_46 : decode cX3_reckon 46 = .ok (.iload 7, 2) := by decide +kernel
theorem dX3_reckon_48 : decode cX3_reckon 48 = .ok (.lookupswitch 151 #[(1, 52), (2, 52), (33, 94), (38, 113), (124, 132)], 52) := by decide +kernel
theorem dX3_reckon_100 : decode cX3_reckon 100 = .ok (.iload 4, 2) := by decide +kernel
theorem dX3_reckon_102 : decode cX3_reckon 102 = .ok (.bipush 32, 2) := by decide +kernel
theorem dX3_reckon_104 : decode cX3_reckon 104 = .ok (.if_icmp .lt 5, 3) := by decide +kernel
theorem dX3_reckon_107 : decode cX3_reckon 107 = .ok (.iconst 0, 1) := by decide +kernel
theorem dX3_reckon_108 : decode cX3_reckon 108 = .ok (.ireturn, 1) := by decide +kernel
theorem dX3_reckon_109 : decode cX3_reckon 109 = .ok (.aload_n 0, 1) := by decide +kernel
theorem dX3_reckon_110 : decode cX3_reckon 110 = .ok (.getfield 34, 3) := by decide +kernel
theorem dX3_reckon_113 : decode cX3_reckon 113 = .ok (.iload 4, 2) := by decide +kernel
theorem dX3_reckon_115 : decode cX3_reckon 115 = .ok (.iload_n 3, 1) := by decide +kernel
theorem dX3_reckon_116 : decode cX3_reckon 116 = .ok (.iastore, 1) := by decide +kernel
theorem dX3_reckon_117 : decode cX3_reckon 117 = .ok (.iinc 4 1, 3) := by decide +kernel
theorem dX3_reckon_120 : decode cX3_reckon 120 = .ok (.iload 7, 2) := by decide +kernel
theorem dX3_reckon_122 : decode cX3_reckon 122 = .ok (.iconst 1, 1) := by decide +kernel
theorem dX3_reckon_123 : decode cX3_reckon 123 = .ok (.if_icmp .ne 8, 3) := by decide +kernel
theorem dX3_reckon_126 : decode cX3_reckon 126 = .ok (.iload 8, 2) := by decide +kernel
theorem dX3_reckon_128 : decode cX3_reckon 128 = .ok (.goto 10, 3) := by decide +kernel
theorem dX3_reckon_131 : decode cX3_reckon 131 = .ok (.aload_n 0, 1) := by decide +kernel
theorem dX3_reckon_132 : decode cX3_reckon 132 = .ok (.getfield 28, 3) := by decide +kernel
theorem dX3_reckon_135 : decode cX3_reckon 135 = .ok (.iload 8, 2) := by decide +kernel
theorem dX3_reckon_137 : decode cX3_reckon 137 = .ok (.iaload, 1) := by decide +kernel
theorem dX3_reckon_138 : decode cX3_reckon 138 = .ok (.istore_n 3, 1) := by decide +kernel
theorem dX3_reckon_139 : decode cX3_reckon 139 = .ok (.goto 265, 3) := by decide +kernel
theorem dX3_reckon_142 : decode cX3_reckon 142 = .ok (.aload_n 0, 1) := by decide +kernel
theorem dX3_reckon_143 : decode cX3_reckon 143 = .ok (.aload_n 0, 1) := by decide +kernel
theorem dX3_reckon_144 : decode cX3_reckon 144 = .ok (.getfield 81, 3) := by decide +kernel
theorem dX3_reckon_147 : decode cX3_reckon 147 = .ok (.ifCond .ne 7, 3) := by decide +kernel
theorem dX3_reckon_150 : decode cX3_reckon 150 = .ok (.iconst 1, 1) := by decide +kernel
theorem dX3_reckon_151 : decode cX3_reckon 151 = .ok (.goto 4, 3) := by decide +kernel
theorem dX3_reckon_154 : decode cX3_reckon 154 = .ok (.iconst 0, 1) := by decide +kernel
theorem dX3_reckon_155 : decode cX3_reckon 155 = .ok (.putfield 81, 3) := by decide +kernel
theorem dX3_reckon_158 : decode cX3_reckon 158 = .ok (.goto 246, 3) := by decide +kernel
theorem dX3_reckon_161 : decode cX3_reckon 161 = .ok (.aload_n 0, 1) := by decide +kernel
theorem dX3_reckon_162 : decode cX3_reckon 162 = .ok (.getfield 81, 3) := by decide +kernel
theorem dX3_reckon_165 : decode cX3_reckon 165 = .ok (.ifCond .eq 8, 3) := by decide +kernel
theorem dX3_reckon_168 : decode cX3_reckon 168 = .ok (.iload 5, 2) := by decide +kernel
theorem dX3_reckon_170 : decode cX3_reckon 170 = .ok (.goto 5, 3) := by decide +kernel
theorem dX3_reckon_173 : decode cX3_reckon 173 = .ok (.iload 8, 2) := by decide +kernel
theorem dX3_reckon_175 : decode cX3_reckon 175 = .ok (.istore 5, 2) := by decide +kernel
theorem dX3_reckon_177 : decode cX3_reckon 177 = .ok (.goto 227, 3) := by decide +kernel
theorem dX3_reckon_180 : decode cX3_reckon 180 = .ok (.aload_n 0, 1) := by decide +kernel
theorem dX3_reckon_181 : decode cX3_reckon 181 = .ok (.getfield 81, 3) := by decide +kernel
theorem dX3_reckon_184 : decode cX3_reckon 184 = .ok (.ifCond .eq 8, 3) := by decide +kernel
theorem dX3_reckon_187 : decode cX3_reckon 187 = .ok (.iload 8, 2) := by decide +kernel
theorem dX3_reckon_189 : decode cX3_reckon 189 = .ok (.goto 5, 3) := by decide +kernel
theorem dX3_reckon_192 : decode cX3_reckon 192 = .ok (.iload 5, 2) := by decide +kernel
theorem dX3_reckon_194 : decode cX3_reckon 194 = .ok (.istore 5, 2) := by decide +kernel
theorem dX3_reckon_196 : decode cX3_reckon 196 = .ok (.goto 208, 3) := by decide +kernel
theorem dX3_reckon_199 : decode cX3_reckon 199 = .ok (.iload 4, 2) := by decide +kernel
theorem dX3_reckon_201 : decode cX3_reckon 201 = .ok (.iconst 1, 1) := by decide +kernel
theorem dX3_reckon_202 : decode cX3_reckon 202 = .ok (.if_icmp .lt 21, 3) := by decide +kernel
theorem dX3_reckon_205 : decode cX3_reckon 205 = .ok (.iload_n 3, 1) := by decide +kernel
theorem dX3_reckon_206 : decode cX3_reckon 206 = .ok (.ifCond .ne 19, 3) := by decide +kernel
theorem dX3_reckon_209 : decode cX3_reckon 209 = .ok (.iload 7, 2) := by decide +kernel
theorem dX3_reckon_211 : decode cX3_reckon 211 = .ok (.bipush 47, 2) := by decide +kernel
theorem dX3_reckon_213 : decode cX3_reckon 213 = .ok (.if_icmp .eq 10, 3) := by decide +kernel
theorem dX3_reckon_216 : decode cX3_reckon 216 = .ok (.iload 7, 2) := by decide +kernel
theorem dX3_reckon_218 : decode cX3_reckon 218 = .ok (.bipush 37, 2) := by decide +kernel
theorem dX3_reckon_220 : decode cX3_reckon 220 = .ok (.if_icmp .ne 5, 3) := by decide +kernel
theorem dX3_reckon_223 : decode cX3_reckon 223 = .ok (.iconst 0, 1) := by decide +kernel
theorem dX3_reckon_224 : decode cX3_reckon 224 = .ok (.ireturn, 1) := by decide +kernel
theorem dX3_reckon_225 : decode cX3_reckon 225 = .ok (.iinc 4 (-1), 3) := by decide +kernel
theorem dX3_reckon_228 : decode cX3_reckon 228 = .ok (.aload_n 0, 1) := by decide +kernel
theorem dX3_reckon_229 : decode cX3_reckon 229 = .ok (.getfield 34, 3) := by decide +kernel
theorem dX3_reckon_232 : decode cX3_reckon 232 = .ok (.iload 4, 2) := by decide +kernel
theorem dX3_reckon_234 : decode cX3_reckon 234 = .ok (.iaload, 1) := by decide +kernel
theorem dX3_reckon_235 : decode cX3_reckon 235 = .ok (.istore 9, 2) := by decide +kernel
theorem dX3_reckon_237 : decode cX3_reckon 237 = .ok (.iload 7, 2) := by decide +kernel
theorem dX3_reckon_239 : decode cX3_reckon 239 = .ok (.lookupswitch 147 #[(37, 97), (42, 81), (43, 65), (45, 73), (47, 89), (60, 105), (62, 126)], 65) := by decide +kernel
theorem dX3_reckon_304 : decode cX3_reckon 304 = .ok (.iload 9, 2) := by decide +kernel
theorem dX3_reckon_306 : decode cX3_reckon 306 = .ok (.iload_n 3, 1) := by decide +kernel
theorem dX3_reckon_307 : decode cX3_reckon 307 = .ok (.iadd, 1) := by decide +kernel
theorem dX3_reckon_308 : decode cX3_reckon 308 = .ok (.istore_n 3, 1) := by decide +kernel
theorem dX3_reckon_309 : decode cX3_reckon 309 = .ok (.goto 95, 3) := by decide +kernel
theorem dX3_reckon_312 : decode cX3_reckon 312 = .ok (.iload 9, 2) := by decide +kernel
theorem dX3_reckon_314 : decode cX3_reckon 314 = .ok (.iload_n 3, 1) := by decide +kernel
theorem dX3_reckon_315 : decode cX3_reckon 315 = .ok (.isub, 1) := by decide +kernel
theorem dX3_reckon_316 : decode cX3_reckon 316 = .ok (.istore_n 3, 1) := by decide +kernel
theorem dX3_reckon_317 : decode cX3_reckon 317 = .ok (.goto 87, 3) := by decide +kernel
theorem dX3_reckon_320 : decode cX3_reckon 320 = .ok (.iload 9, 2) := by decide +kernel
theorem dX3_reckon_322 : decode cX3_reckon 322 = .ok (.iload_n 3, 1) := by decide +kernel
theorem dX3_reckon_323 : decode cX3_reckon 323 = .ok (.imul, 1) := by decide +kernel
theorem dX3_reckon_324 : decode cX3_reckon 324 = .ok (.istore_n 3, 1) := by decide +kernel
theorem dX3_reckon_325 : decode cX3_reckon 325 = .ok (.goto 79, 3) := by decide +kernel
theorem dX3_reckon_328 : decode cX3_reckon 328 = .ok (.iload 9, 2) := by decide +kernel
theorem dX3_reckon_330 : decode cX3_reckon 330 = .ok (.iload_n 3, 1) := by decide +kernel
theorem dX3_reckon_331 : decode cX3_reckon 331 = .ok (.idiv, 1) := by decide +kernel
theorem dX3_reckon_332 : decode cX3_reckon 332 = .ok (.istore_n 3, 1) := by decide +kernel
theorem dX3_reckon_333 : decode cX3_reckon 333 = .ok (.goto 71, 3) := by decide +kernel
theorem dX3_reckon_336 : decode cX3_reckon 336 = .ok (.iload 9, 2) := by decide +kernel
theorem dX3_reckon_338 : decode cX3_reckon 338 = .ok (.iload_n 3, 1) := by decide +kernel
theorem dX3_reckon_339 : decode cX3_reckon 339 = .ok (.irem, 1) := by decide +kernel
theorem dX3_reckon_340 : decode cX3_reckon 340 = .ok (.istore_n 3, 1) := by decide +kernel
theorem dX3_reckon_341 : decode cX3_reckon 341 = .ok (.goto 63, 3) := by decide +kernel
theorem dX3_reckon_344 : decode cX3_reckon 344 = .ok (.aload_n 0, 1) := by decide +kernel
theorem dX3_reckon_345 : decode cX3_reckon 345 = .ok (.iload 9, 2) := by decide +kernel
theorem dX3_reckon_347 : decode cX3_reckon 347 = .ok (.iload_n 3, 1) := by decide +kernel
theorem dX3_reckon_348 : decode cX3_reckon 348 = .ok (.if_icmp .ge 7, 3) := by decide +kernel
theorem dX3_reckon_351 : decode cX3_reckon 351 = .ok (.iconst 1, 1) := by decide +kernel
theorem dX3_reckon_352 : decode cX3_reckon 352 = .ok (.goto 4, 3) := by decide +kernel
theorem dX3_reckon_355 : decode cX3_reckon 355 = .ok (.iconst 0, 1) := by decide +kernel
theorem dX3_reckon_356 : decode cX3_reckon 356 = .ok (.putfield 81, 3) := by decide +kernel
theorem dX3_reckon_359 : decode cX3_reckon 359 = .ok (.iconst 0, 1) := by decide +kernel
theorem dX3_reckon_360 : decode cX3_reckon 360 = .ok (.istore 4, 2) := by decide +kernel
theorem dX3_reckon_362 : decode cX3_reckon 362 = .ok (.goto 42, 3) := by decide +kernel
theorem dX3_reckon_365 : decode cX3_reckon 365 = .ok (.aload_n 0, 1) := by decide +kernel
theorem dX3_reckon_366 : decode cX3_reckon 366 = .ok (.iload 9, 2) := by decide +kernel
theorem dX3_reckon_368 : decode cX3_reckon 368 = .ok (.iload_n 3, 1) := by decide +kernel
theorem dX3_reckon_369 : decode cX3_reckon 369 = .ok (.if_icmp .le 7, 3) := by decide +kernel
theorem dX3_reckon_372 : decode cX3_reckon 372 = .ok (.iconst 1, 1) := by decide +kernel
theorem dX3_reckon_373 : decode cX3_reckon 373 = .ok (.goto 4, 3) := by decide +kernel
theorem dX3_reckon_376 : decode cX3_reckon 376 = .ok (.iconst 0, 1) := by decide +kernel
theorem dX3_reckon_377 : decode cX3_reckon 377 = .ok (.putfield 81, 3) := by decide +kernel
theorem dX3_reckon_380 : decode cX3_reckon 380 = .ok (.iconst 0, 1) := by decide +kernel
theorem dX3_reckon_381 : decode cX3_reckon 381 = .ok (.istore 4, 2) := by decide +kernel
theorem dX3_reckon_383 : decode cX3_reckon 383 = .ok (.goto 21, 3) := by decide +kernel
theorem dX3_reckon_386 : decode cX3_reckon 386 = .ok (.aload_n 0, 1) := by decide +kernel
theorem dX3_reckon_387 : decode cX3_reckon 387 = .ok (.iload 9, 2) := by decide +kernel
theorem dX3_reckon_389 : decode cX3_reckon 389 = .ok (.iload_n 3, 1) := by decide +kernel
theorem dX3_reckon_390 : decode cX3_reckon 390 = .ok (.if_icmp .ne 7, 3) := by decide +kernel
theorem dX3_reckon_393 : decode cX3_reckon 393 = .ok (.iconst 1, 1) := by decide +kernel
theorem dX3_reckon_394 : decode cX3_reckon 394 = .ok (.goto 4, 3) := by decide +kernel
theorem dX3_reckon_397 : decode cX3_reckon 397 = .ok (.iconst 0, 1) := by decide +kernel
theorem dX3_reckon_398 : decode cX3_reckon 398 = .ok (.putfield 81, 3) := by decide +kernel
theorem dX3_reckon_401 : decode cX3_reckon 401 = .ok (.iconst 0, 1) := by decide +kernel
theorem dX3_reckon_402 : decode cX3_reckon 402 = .ok (.istore 4, 2) := by decide +kernel
theorem dX3_reckon_404 : decode cX3_reckon 404 = .ok (.iinc 6 1, 3) := by decide +kernel
theorem dX3_reckon_407 : decode cX3_reckon 407 = .ok (.goto (-396), 3) := by decide +kernel
theorem dX3_reckon_410 : decode cX3_reckon 410 = .ok (.aload_n 0, 1) := by decide +kernel
theorem dX3_reckon_411 : decode cX3_reckon 411 = .ok (.iload_n 3, 1) := by decide +kernel
theorem dX3_reckon_412 : decode cX3_reckon 412 = .ok (.putfield 120, 3) := by decide +kernel
theorem dX3_reckon_415 : decode cX3_reckon 415 = .ok (.iconst 1, 1) := by decide +kernel
theorem dX3_reckon_416 : decode cX3_reckon 416 = .ok (.ireturn, 1) := by decide +kernel
theorem dX4_init_0 : decode cX4_init 0 = .ok (.aload_n 0, 1) := by decide +kernel
theorem dX4_init_1 : decode cX4_init 1 = .ok (.invokespecial 3, 3) := by decide +kernel
theorem dX4_init_4 : decode cX4_init 4 = .ok (.aload_n 0, 1) := by decide +kernel
theorem dX4_init_5 : decode cX4_init 5 = .ok (.aload_n 1, 1) := by decide +kernel
theorem dX4_init_6 : decode cX4_init 6 = .ok (.putfield 9, 3) := by decide +kernel
theorem dX4_init_9 : decode cX4_init 9 = .ok (.return_, 1) := by decide +kernel
theorem dX4_readInto_0 : decode cX4_readInto 0 = .ok (.aload_n 0, 1) := by decide +kernel
theorem dX4_readInto_1 : decode cX4_readInto 1 = .ok (.aload_n 1, 1) := by decide +kernel
theorem dX4_readInto_2 : decode cX4_readInto 2 = .ok (.putfield 15, 3) := by decide +kernel
theorem dX4_readInto_5 : decode cX4_readInto 5 = .ok (.aload_n 0, 1) := by decide +kernel
theorem dX4_readInto_6 : decode cX4_readInto 6 = .ok (.getfield 15, 3) := by decide +kernel
theorem dX4_readInto_9 : decode cX4_readInto 9 = .ok (.invokevirtual 19, 3) := by decide +kernel
theorem dX4_readInto_12 : decode cX4_readInto 12 = .ok (.aload_n 0, 1) := by decide +kernel
theorem dX4_readInto_13 : decode cX4_readInto 13 = .ok (.iload_n 2, 1) := by decide +kernel
theorem dX4_readInto_14 : decode cX4_readInto 14 = .ok (.putfield 24, 3) := by decide +kernel
theorem dX4_readInto_17 : decode cX4_readInto 17 = .ok (.aload_n 0, 1) := by decide +kernel
theorem dX4_readInto_18 : decode cX4_readInto 18 = .ok (.iconst 0, 1) := by decide +kernel
theorem dX4_readInto_19 : decode cX4_readInto 19 = .ok (.putfield 28, 3) := by decide +kernel
theorem dX4_readInto_22 : decode cX4_readInto 22 = .ok (.aload_n 0, 1) := by decide +kernel
theorem dX4_readInto_23 : decode cX4_readInto 23 = .ok (.iconst 0, 1) := by decide +kernel
theorem dX4_readInto_24 : decode cX4_readInto 24 = .ok (.putfield 31, 3) := by decide +kernel
theorem dX4_readInto_27 : decode cX4_readInto 27 = .ok (.aload_n 0, 1) := by decide +kernel
theorem dX4_readInto_28 : decode cX4_readInto 28 = .ok (.invokevirtual 34, 3) := by decide +kernel
theorem dX4_readInto_31 : decode cX4_readInto 31 = .ok (.ifCond .eq 13, 3) := by decide +kernel
theorem dX4_readInto_34 : decode cX4_readInto 34 = .ok (.aload_n 0, 1) := by decide +kernel
theorem dX4_readInto_35 : decode cX4_readInto 35 = .ok (.getfield 15, 3) := by decide +kernel
theorem dX4_readInto_38 : decode cX4_readInto 38 = .ok (.getfield 38, 3) := by decide +kernel
theorem dX4_readInto_41 : decode cX4_readInto 41 = .ok (.goto 16, 3) := by decide +kernel
theorem dX4_readInto_44 : decode cX4_readInto 44 = .ok (.sipush (-1000), 3) := by decide +kernel
theorem dX4_readInto_47 : decode cX4_readInto 47 = .ok (.aload_n 0, 1) := by decide +kernel
theorem dX4_readInto_48 : decode cX4_readInto 48 = .ok (.getfield 31, 3) := by decide +kernel
theorem dX4_readInto_51 : decode cX4_readInto 51 = .ok (.imul, 1) := by decide +kernel
theorem dX4_readInto_52 : decode cX4_readInto 52 = .ok (.aload_n 0, 1) := by decide +kernel
theorem dX4_readInto_53 : decode cX4_readInto 53 = .ok (.getfield 28, 3) := by decide +kernel
theorem dX4_readInto_56 : decode cX4_readInto 56 = .ok (.isub, 1) := by decide +kernel
theorem dX4_readInto_57 : decode cX4_readInto 57 = .ok (.ireturn, 1) := by decide +kernel
theorem dX4_fail_0 : decode cX4_fail 0 = .ok (.aload_n 0, 1) := by decide +kernel
theorem dX4_fail_1 : decode cX4_fail 1 = .ok (.iload_n 1, 1) := by decide +kernel
theorem dX4_fail_2 : decode cX4_fail 2 = .ok (.putfield 31, 3) := by decide +kernel
theorem dX4_fail_5 : decode cX4_fail 5 = .ok (.iconst 0, 1) := by decide +kernel
theorem dX4_fail_6 : decode cX4_fail 6 = .ok (.ireturn, 1) := by decide +kernel
theorem dX4_sign_0 : decode cX4_sign 0 = .ok (.aload_n 0, 1) := by decide +kernel
theorem dX4_sign_1 : decode cX4_sign 1 = .ok (.getfield 28, 3) := by decide +kernel
theorem dX4_sign_4 : decode cX4_sign 4 = .ok (.aload_n 0, 1) := by decide +kernel
theorem dX4_sign_5 : decode cX4_sign 5 = .ok (.getfield 24, 3) := by decide +kernel
theorem dX4_sign_8 : decode cX4_sign 8 = .ok (.if_icmp .ge 28, 3) := by decide +kernel
theorem dX4_sign_11 : decode cX4_sign 11 = .ok (.aload_n 0, 1) := by decide +kernel
theorem dX4_sign_12 : decode cX4_sign 12 = .ok (.getfield 28, 3) := by decide +kernel
theorem dX4_sign_15 : decode cX4_sign 15 = .ok (.sipush 220, 3) := by decide +kernel
theorem dX4_sign_18 : decode cX4_sign 18 = .ok (.if_icmp .ge 18, 3) := by decide +kernel
theorem dX4_sign_21 : decode cX4_sign 21 = .ok (.aload_n 0, 1) := by decide +kernel
theorem dX4_sign_22 : decode cX4_sign 22 = .ok (.getfield 9, 3) := by decide +kernel
theorem dX4_sign_25 : decode cX4_sign 25 = .ok (.getfield 43, 3) := by decide +kernel
theorem dX4_sign_28 : decode cX4_sign 28 = .ok (.aload_n 0, 1) := by decide +kernel
theorem dX4_sign_29 : decode cX4_sign 29 = .ok (.getfield 28, 3) := by decide +kernel
theorem dX4_sign_32 : decode cX4_sign 32 = .ok (.iaload, 1) := by decide +kernel
theorem dX4_sign_33 : decode cX4_sign 33 = .ok (.goto 4, 3) := by decide +kernel
theorem dX4_sign_36 : decode cX4_sign 36 = .ok (.iconst (-1), 1) := by decide +kernel
theorem dX4_sign_37 : decode cX4_sign 37 = .ok (.ireturn, 1) := by decide +kernel
theorem dX4_expect_0 : decode cX4_expect 0 = .ok (.aload_n 0, 1) := by decide +kernel
theorem dX4_expect_1 : decode cX4_expect 1 = .ok (.invokevirtual 47, 3) := by decide +kernel
theorem dX4_expect_4 : decode cX4_expect 4 = .ok (.iload_n 1, 1) := by decide +kernel
theorem dX4_expect_5 : decode cX4_expect 5 = .ok (.if_icmp .eq 9, 3) := by decide +kernel
theorem dX4_expect_8 : decode cX4_expect 8 = .ok (.aload_n 0, 1) := by decide +kernel
theorem dX4_expect_9 : decode cX4_expect 9 = .ok (.iconst 1, 1) := by decide +kernel
theorem dX4_expect_10 : decode cX4_expect 10 = .ok (.invokevirtual 51, 3) := by decide +kernel
theorem dX4_expect_13 : decode cX4_expect 13 = .ok (.ireturn, 1) := by decide +kernel
theorem dX4_expect_14 : decode cX4_expect 14 = .ok (.aload_n 0, 1) := by decide +kernel
theorem dX4_expect_15 : decode cX4_expect 15 = .ok (.dup, 1) := by decide +kernel
theorem dX4_expect_16 : decode cX4_expect 16 = .ok (.getfield 28, 3) := by decide +kernel
theorem dX4_expect_19 : decode cX4_expect 19 = .ok (.iconst 1, 1) := by decide +kernel
theorem dX4_expect_20 : decode cX4_expect 20 = .ok (.iadd, 1) := by decide +kernel
theorem dX4_expect_21 : decode cX4_expect 21 = .ok (.putfield 28, 3) := by decide +kernel
theorem dX4_expect_24 : decode cX4_expect 24 = .ok (.iconst 1, 1) := by decide +kernel
theorem dX4_expect_25 : decode cX4_expect 25 = .ok (.ireturn, 1) := by decide +kernel
theorem dX4_clauses_0 : decode cX4_clauses 0 = .ok (.iconst 0, 1) := by decide +kernel
theorem dX4_clauses_1 : decode cX4_clauses 1 = .ok (.istore_n 1, 1) := by decide +kernel
theorem dX4_clauses_2 : decode cX4_clauses 2 = .ok (.iload_n 1, 1) := by decide +kernel
theorem dX4_clauses_3 : decode cX4_clauses 3 = .ok (.bipush 14, 2) := by decide +kernel
theorem dX4_clauses_5 : decode cX4_clauses 5 = .ok (.if_icmp .gt 94, 3) := by decide +kernel
theorem dX4_clauses_8 : decode cX4_clauses 8 = .ok (.aload_n 0, 1) := by decide +kernel
theorem dX4_clauses_9 : decode cX4_clauses 9 = .ok (.invokevirtual 47, 3) := by decide +kernel
theorem dX4_clauses_12 : decode cX4_clauses 12 = .ok (.istore_n 2, 1) := by decide +kernel
theorem dX4_clauses_13 : decode cX4_clauses 13 = .ok (.iload_n 2, 1) := by decide +kernel
theorem dX4_clauses_14 : decode cX4_clauses 14 = .ok (.bipush 110, 2) := by decide +kernel
theorem dX4_clauses_16 : decode cX4_clauses 16 = .ok (.if_icmp .eq 21, 3) := by decide +kernel
theorem dX4_clauses_19 : decode cX4_clauses 19 = .ok (.iload_n 2, 1) := by decide +kernel
theorem dX4_clauses_20 : decode cX4_clauses 20 = .ok (.bipush 101, 2) := by decide +kernel
theorem dX4_clauses_22 : decode cX4_clauses 22 = .ok (.if_icmp .eq 15, 3) := by decide +kernel
theorem dX4_clauses_25 : decode cX4_clauses 25 = .ok (.iload_n 2, 1) := by decide +kernel
theorem dX4_clauses_26 : decode cX4_clauses 26 = .ok (.bipush 103, 2) := by decide +kernel
theorem dX4_clauses_28 : decode cX4_clauses 28 = .ok (.if_icmp .eq 9, 3) := by decide +kernel
theorem dX4_clauses_31 : decode cX4_clauses 31 = .ok (.aload_n 0, 1) := by decide +kernel
theorem dX4_clauses_32 : decode cX4_clauses 32 = .ok (.iconst 1, 1) := by decide +kernel
theorem dX4_clauses_33 : decode cX4_clauses 33 = .ok (.invokevirtual 51, 3) := by decide +kernel
theorem dX4_clauses_36 : decode cX4_clauses 36 = .ok (.ireturn, 1) := by decide +kernel
theorem dX4_clauses_37 : decode cX4_clauses 37 = .ok (.iload_n 1, 1) := by decide +kernel
theorem dX4_clauses_38 : decode cX4_clauses 38 = .ok (.bipush 14, 2) := by decide +kernel
theorem dX4_clauses_40 : decode cX4_clauses 40 = .ok (.if_icmp .ne 9, 3) := by decide +kernel
theorem dX4_clauses_43 : decode cX4_clauses 43 = .ok (.aload_n 0, 1) := by decide +kernel
theorem dX4_clauses_44 : decode cX4_clauses 44 = .ok (.iconst 4, 1) := by decide +kernel
theorem dX4_clauses_45 : decode cX4_clauses 45 = .ok (.invokevirtual 51, 3) := by decide +kernel
theorem dX4_clauses_48 : decode cX4_clauses 48 = .ok (.ireturn, 1) := by decide +kernel
theorem dX4_clauses_49 : decode cX4_clauses 49 = .ok (.aload_n 0, 1) := by decide +kernel
theorem dX4_clauses_50 : decode cX4_clauses 50 = .ok (.dup, 1) := by decide +kernel
theorem dX4_clauses_51 : decode cX4_clauses 51 = .ok (.getfield 28, 3) := by decide +kernel
theorem dX4_clauses_54 : decode cX4_clauses 54 = .ok (.iconst 1, 1) := by decide +kernel
theorem dX4_clauses_55 : decode cX4_clauses 55 = .ok (.iadd, 1) := by decide +kernel
theorem dX4_clauses_56 : decode cX4_clauses 56 = .ok (.putfield 28, 3) := by decide +kernel
theorem dX4_clauses_59 : decode cX4_clauses 59 = .ok (.aload_n 0, 1) := by decide +kernel
theorem dX4_clauses_60 : decode cX4_clauses 60 = .ok (.iload_n 2, 1) := by decide +kernel
theorem dX4_clauses_61 : decode cX4_clauses 61 = .ok (.invokevirtual 55, 3) := by decide +kernel
theorem dX4_clauses_64 : decode cX4_clauses 64 = .ok (.ifCond .ne 5, 3) := by decide +kernel
theorem dX4_clauses_67 : decode cX4_clauses 67 = .ok (.iconst 0, 1) := by decide +kernel
theorem dX4_clauses_68 : decode cX4_clauses 68 = .ok (.ireturn, 1) := by decide +kernel
theorem dX4_clauses_69 : decode cX4_clauses 69 = .ok (.aload_n 0, 1) := by decide +kernel
theorem dX4_clauses_70 : decode cX4_clauses 70 = .ok (.getfield 28, 3) := by decide +kernel
theorem dX4_clauses_73 : decode cX4_clauses 73 = .ok (.aload_n 0, 1) := by decide +kernel
theorem dX4_clauses_74 : decode cX4_clauses 74 = .ok (.getfield 24, 3) := by decide +kernel
theorem dX4_clauses_77 : decode cX4_clauses 77 = .ok (.if_icmp .ne 5, 3) := by decide +kernel
theorem dX4_clauses_80 : decode cX4_clauses 80 = .ok (.iconst 1, 1) := by decide +kernel
theorem dX4_clauses_81 : decode cX4_clauses 81 = .ok (.ireturn, 1) := by decide +kernel
theorem dX4_clauses_82 : decode cX4_clauses 82 = .ok (.aload_n 0, 1) := by decide +kernel
theorem dX4_clauses_83 : decode cX4_clauses 83 = .ok (.bipush 59, 2) := by decide +kernel
theorem dX4_clauses_85 : decode cX4_clauses 85 = .ok (.invokevirtual 58, 3) := by decide +kernel
theorem dX4_clauses_88 : decode cX4_clauses 88 = .ok (.ifCond .ne 5, 3) := by decide +kernel
theorem dX4_clauses_91 : decode cX4_clauses 91 = .ok (.iconst 0, 1) := by decide +kernel
theorem dX4_clauses_92 : decode cX4_clauses 92 = .ok (.ireturn, 1) := by decide +kernel
theorem dX4_clauses_93 : decode cX4_clauses 93 = .ok (.iinc 1 1, 3) := by decide +kernel
theorem dX4_clauses_96 : decode cX4_clauses 96 = .ok (.goto (-94), 3) := by decide +kernel
theorem dX4_clauses_99 : decode cX4_clauses 99 = .ok (.iconst 0, 1) := by decide +kernel
theorem dX4_clauses_100 : decode cX4_clauses 100 = .ok (.ireturn, 1) := by decide +kernel
theorem dX4_clause_0 : decode cX4_clause 0 = .ok (.aload_n 0, 1) := by decide +kernel
theorem dX4_clause_1 : decode cX4_clause 1 = .ok (.getfield 15, 3) := by decide +kernel
theorem dX4_clause_4 : decode cX4_clause 4 = .ok (.getfield 61, 3) := by decide +kernel
theorem dX4_clause_7 : decode cX4_clause 7 = .ok (.istore_n 2, 1) := by decide +kernel
theorem dX4_clause_8 : decode cX4_clause 8 = .ok (.iload_n 1, 1) := by decide +kernel
theorem dX4_clause_9 : decode cX4_clause 9 = .ok (.bipush 110, 2) := by decide +kernel
theorem dX4_clause_11 : decode cX4_clause 11 = .ok (.if_icmp .eq 13, 3) := by decide +kernel
theorem dX4_clause_14 : decode cX4_clause 14 = .ok (.aload_n 0, 1) := by decide +kernel
theorem dX4_clause_15 : decode cX4_clause 15 = .ok (.iconst 0, 1) := by decide +kernel
theorem dX4_clause_16 : decode cX4_clause 16 = .ok (.invokevirtual 64, 3) := by decide +kernel
theorem dX4_clause_19 : decode cX4_clause 19 = .ok (.ifCond .ne 5, 3) := by decide +kernel
theorem dX4_clause_22 : decode cX4_clause 22 = .ok (.iconst 0, 1) := by decide +kernel
theorem dX4_clause_23 : decode cX4_clause 23 = .ok (.ireturn, 1) := by decide +kernel
theorem dX4_clause_24 : decode cX4_clause 24 = .ok (.aload_n 0, 1) := by decide +kernel
theorem dX4_clause_25 : decode cX4_clause 25 = .ok (.getfield 15, 3) := by decide +kernel
theorem dX4_clause_28 : decode cX4_clause 28 = .ok (.getfield 61, 3) := by decide +kernel
theorem dX4_clause_31 : decode cX4_clause 31 = .ok (.istore_n 3, 1) := by decide +kernel
theorem dX4_clause_32 : decode cX4_clause 32 = .ok (.aload_n 0, 1) := by decide +kernel
theorem dX4_clause_33 : decode cX4_clause 33 = .ok (.bipush 40, 2) := by decide +kernel
theorem dX4_clause_35 : decode cX4_clause 35 = .ok (.invokevirtual 58, 3) := by decide +kernel
theorem dX4_clause_38 : decode cX4_clause 38 = .ok (.ifCond .eq 20, 3) := by decide +kernel
theorem dX4_clause_41 : decode cX4_clause 41 = .ok (.aload_n 0, 1) := by decide +kernel
theorem dX4_clause_42 : decode cX4_clause 42 = .ok (.iconst 1, 1) := by decide +kernel
theorem dX4_clause_43 : decode cX4_clause 43 = .ok (.invokevirtual 67, 3) := by decide +kernel
theorem dX4_clause_46 : decode cX4_clause 46 = .ok (.ifCond .eq 12, 3) := by decide +kernel
theorem dX4_clause_49 : decode cX4_clause 49 = .ok (.aload_n 0, 1) := by decide +kernel
theorem dX4_clause_50 : decode cX4_clause 50 = .ok (.bipush 41, 2) := by decide +kernel
theorem dX4_clause_52 : decode cX4_clause 52 = .ok (.invokevirtual 58, 3) := by decide +kernel
theorem dX4_clause_55 : decode cX4_clause 55 = .ok (.ifCond .ne 5, 3) := by decide +kernel
theorem dX4_clause_58 : decode cX4_clause 58 = .ok (.iconst 0, 1) := by decide +kernel
theorem dX4_clause_59 : decode cX4_clause 59 = .ok (.ireturn, 1) := by decide +kernel
theorem dX4_clause_60 : decode cX4_clause 60 = .ok (.aload_n 0, 1) := by decide +kernel
theorem dX4_clause_61 : decode cX4_clause 61 = .ok (.getfield 15, 3) := by decide +kernel
theorem dX4_clause_64 : decode cX4_clause 64 = .ok (.iload_n 1, 1) := by decide +kernel
theorem dX4_clause_65 : decode cX4_clause 65 = .ok (.iload_n 2, 1) := by decide +kernel
theorem dX4_clause_66 : decode cX4_clause 66 = .ok (.iload_n 3, 1) := by decide +kernel
theorem dX4_clause_67 : decode cX4_clause 67 = .ok (.invokevirtual 70, 3) := by decide +kernel
theorem dX4_clause_70 : decode cX4_clause 70 = .ok (.iconst 1, 1) := by decide +kernel
theorem dX4_clause_71 : decode cX4_clause 71 = .ok (.ireturn, 1) := by decide +kernel
theorem dX4_condition_0 : decode cX4_condition 0 = .ok (.aload_n 0, 1) := by decide +kernel
theorem dX4_condition_1 : decode cX4_condition 1 = .ok (.getfield 15, 3) := by decide +kernel
theorem dX4_condition_4 : decode cX4_condition 4 = .ok (.getfield 61, 3) := by decide +kernel
theorem dX4_condition_7 : decode cX4_condition 7 = .ok (.istore_n 2, 1) := by decide +kernel
theorem dX4_condition_8 : decode cX4_condition 8 = .ok (.iload_n 2, 1) := by decide +kernel
theorem dX4_condition_9 : decode cX4_condition 9 = .ok (.istore_n 3, 1) := by decide +kernel
theorem dX4_condition_10 : decode cX4_condition 10 = .ok (.iconst 0, 1) := by decide +kernel
theorem dX4_condition_11 : decode cX4_condition 11 = .ok (.istore 4, 2) := by decide +kernel
theorem dX4_condition_13 : decode cX4_condition 13 = .ok (.iload 4, 2) := by decide +kernel
theorem dX4_condition_15 : decode cX4_condition 15 = .ok (.sipush 200, 3) := by decide +kernel
theorem dX4_condition_18 : decode cX4_condition 18 = .ok (.if_icmp .ge 107, 3) := by decide +kernel
theorem dX4_condition_21 : decode cX4_condition 21 = .ok (.aload_n 0, 1) := by decide +kernel
theorem dX4_condition_22 : decode cX4_condition 22 = .ok (.iload_n 1, 1) := by decide +kernel
theorem dX4_condition_23 : decode cX4_condition 23 = .ok (.invokevirtual 74, 3) := by decide +kernel
theorem dX4_condition_26 : decode cX4_condition 26 = .ok (.ifCond .ne 5, 3) := by decide +kernel
theorem dX4_condition_29 : decode cX4_condition 29 = .ok (.iconst 0, 1) := by decide +kernel
theorem dX4_condition_30 : decode cX4_condition 30 = .ok (.ireturn, 1) := by decide +kernel
theorem dX4_condition_31 : decode cX4_condition 31 = .ok (.aload_n 0, 1) := by decide +kernel
theorem dX4_condition_32 : decode cX4_condition 32 = .ok (.invokevirtual 47, 3) := by decide +kernel
theorem dX4_condition_35 : decode cX4_condition 35 = .ok (.istore 5, 2) := by decide +kernel
theorem dX4_condition_37 : decode cX4_condition 37 = .ok (.iload 5, 2) := by decide +kernel
theorem dX4_condition_39 : decode cX4_condition 39 = .ok (.bipush 38, 2) := by decide +kernel
theorem dX4_condition_41 : decode cX4_condition 41 = .ok (.if_icmp .eq 13, 3) := by decide +kernel
theorem dX4_condition_44 : decode cX4_condition 44 = .ok (.aload_n 0, 1) := by decide +kernel
theorem dX4_condition_45 : decode cX4_condition 45 = .ok (.getfield 15, 3) := by decide +kernel
theorem dX4_condition_48 : decode cX4_condition 48 = .ok (.iload_n 3, 1) := by decide +kernel
theorem dX4_condition_49 : decode cX4_condition 49 = .ok (.bipush 38, 2) := by decide +kernel
theorem dX4_condition_51 : decode cX4_condition 51 = .ok (.invokevirtual 77, 3) := by decide +kernel
theorem dX4_condition_54 : decode cX4_condition 54 = .ok (.iload 5, 2) := by decide +kernel
theorem dX4_condition_56 : decode cX4_condition 56 = .ok (.bipush 38, 2) := by decide +kernel
theorem dX4_condition_58 : decode cX4_condition 58 = .ok (.if_icmp .eq 22, 3) := by decide +kernel
theorem dX4_condition_61 : decode cX4_condition 61 = .ok (.iload 5, 2) := by decide +kernel
theorem dX4_condition_63 : decode cX4_condition 63 = .ok (.bipush 124, 2) := by decide +kernel
theorem dX4_condition_65 : decode cX4_condition 65 = .ok (.if_icmp .eq 15, 3) := by decide +kernel
theorem dX4_condition_68 : decode cX4_condition 68 = .ok (.aload_n 0, 1) := by decide +kernel
theorem dX4_condition_69 : decode cX4_condition 69 = .ok (.getfield 15, 3) := by decide +kernel
theorem dX4_condition_72 : decode cX4_condition 72 = .ok (.iload_n 2, 1) := by decide +kernel
theorem dX4_condition_73 : decode cX4_condition 73 = .ok (.bipush 124, 2) := by decide +kernel
theorem dX4_condition_75 : decode cX4_condition 75 = .ok (.invokevirtual 77, 3) := by decide +kernel
theorem dX4_condition_78 : decode cX4_condition 78 = .ok (.iconst 1, 1) := by decide +kernel
theorem dX4_condition_79 : decode cX4_condition 79 = .ok (.ireturn, 1) := by decide +kernel
theorem dX4_condition_80 : decode cX4_condition 80 = .ok (.aload_n 0, 1) := by decide +kernel
theorem dX4_condition_81 : decode cX4_condition 81 = .ok (.dup, 1) := by decide +kernel
theorem dX4_condition_82 : decode cX4_condition 82 = .ok (.getfield 28, 3) := by decide +kernel
theorem dX4_condition_85 : decode cX4_condition 85 = .ok (.iconst 1, 1) := by decide +kernel
theorem dX4_condition_86 : decode cX4_condition 86 = .ok (.iadd, 1) := by decide +kernel
theorem dX4_condition_87 : decode cX4_condition 87 = .ok (.putfield 28, 3) := by decide +kernel
theorem dX4_condition_90 : decode cX4_condition 90 = .ok (.aload_n 0, 1) := by decide +kernel
theorem dX4_condition_91 : decode cX4_condition 91 = .ok (.getfield 15, 3) := by decide +kernel
theorem dX4_condition_94 : decode cX4_condition 94 = .ok (.iload 5, 2) := by decide +kernel
theorem dX4_condition_96 : decode cX4_condition 96 = .ok (.iconst (-1), 1) := by decide +kernel
theorem dX4_condition_97 : decode cX4_condition 97 = .ok (.invokevirtual 81, 3) := by decide +kernel
theorem dX4_condition_100 : decode cX4_condition 100 = .ok (.iload 5, 2) := by decide +kernel
theorem dX4_condition_102 : decode cX4_condition 102 = .ok (.bipush 124, 2) := by decide +kernel
theorem dX4_condition_104 : decode cX4_condition 104 = .ok (.if_icmp .ne 13, 3) := by decide +kernel
theorem dX4_condition_107 : decode cX4_condition 107 = .ok (.aload_n 0, 1) := by decide +kernel
theorem dX4_condition_108 : decode cX4_condition 108 = .ok (.getfield 15, 3) := by decide +kernel
theorem dX4_condition_111 : decode cX4_condition 111 = .ok (.getfield 61, 3) := by decide +kernel
theorem dX4_condition_114 : decode cX4_condition 114 = .ok (.goto 4, 3) := by decide +kernel
theorem dX4_condition_117 : decode cX4_condition 117 = .ok (.iload_n 3, 1) := by decide +kernel
theorem dX4_condition_118 : decode cX4_condition 118 = .ok (.istore_n 3, 1) := by decide +kernel
theorem dX4_condition_119 : decode cX4_condition 119 = .ok (.iinc 4 1, 3) := by decide +kernel
theorem dX4_condition_122 : decode cX4_condition 122 = .ok (.goto (-109), 3) := by decide +kernel
theorem dX4_condition_125 : decode cX4_condition 125 = .ok (.iconst 0, 1) := by decide +kernel
theorem dX4_condition_126 : decode cX4_condition 126 = .ok (.ireturn, 1) := by decide +kernel
theorem dX4_piece_0 : decode cX4_piece 0 = .ok (.aload_n 0, 1) := by decide +kernel
theorem dX4_piece_1 : decode cX4_piece 1 = .ok (.invokevirtual 47, 3) := by decide +kernel
theorem dX4_piece_4 : decode cX4_piece 4 = .ok (.istore_n 2, 1) := by decide +kernel
theorem dX4_piece_5 : decode cX4_piece 5 = .ok (.iload_n 2, 1) := by decide +kernel
theorem dX4_piece_6 : decode cX4_piece 6 = .ok (.bipush 33, 2) := by decide +kernel
theorem dX4_piece_8 : decode cX4_piece 8 = .ok (.if_icmp .eq 9, 3) := by decide +kernel
theorem dX4_piece_11 : decode cX4_piece 11 = .ok (.iload_n 2, 1) := by decide +kernel
theorem dX4_piece_12 : decode cX4_piece 12 = .ok (.bipush 40, 2) := by decide +kernel
theorem dX4_piece_14 : decode cX4_piece 14 = .ok (.if_icmp .ne 76, 3) := by decide +kernel
theorem dX4_piece_17 : decode cX4_piece 17 = .ok (.iload_n 1, 1) := by decide +kernel
theorem dX4_piece_18 : decode cX4_piece 18 = .ok (.bipush 6, 2) := by decide +kernel
theorem dX4_piece_20 : decode cX4_piece 20 = .ok (.if_icmp .lt 9, 3) := by decide +kernel
theorem dX4_piece_23 : decode cX4_piece 23 = .ok (.aload_n 0, 1) := by decide +kernel
theorem dX4_piece_24 : decode cX4_piece 24 = .ok (.iconst 5, 1) := by decide +kernel
theorem dX4_piece_25 : decode cX4_piece 25 = .ok (.invokevirtual 51, 3) := by decide +kernel
theorem dX4_piece_28 : decode cX4_piece 28 = .ok (.ireturn, 1) := by decide +kernel
theorem dX4_piece_29 : decode cX4_piece 29 = .ok (.aload_n 0, 1) := by decide +kernel
theorem dX4_piece_30 : decode cX4_piece 30 = .ok (.dup, 1) := by decide +kernel
theorem dX4_piece_31 : decode cX4_piece 31 = .ok (.getfield 28, 3) := by decide +kernel
theorem dX4_piece_34 : decode cX4_piece 34 = .ok (.iconst 1, 1) := by decide +kernel
theorem dX4_piece_35 : decode cX4_piece 35 = .ok (.iadd, 1) := by decide +kernel
theorem dX4_piece_36 : decode cX4_piece 36 = .ok (.putfield 28, 3) := by decide +kernel
theorem dX4_piece_39 : decode cX4_piece 39 = .ok (.iload_n 2, 1) := by decide +kernel
theorem dX4_piece_40 : decode cX4_piece 40 = .ok (.bipush 40, 2) := by decide +kernel
theorem dX4_piece_42 : decode cX4_piece 42 = .ok (.if_icmp .ne 28, 3) := by decide +kernel
theorem dX4_piece_45 : decode cX4_piece 45 = .ok (.aload_n 0, 1) := by decide +kernel
theorem dX4_piece_46 : decode cX4_piece 46 = .ok (.iload_n 1, 1) := by decide +kernel
theorem dX4_piece_47 : decode cX4_piece 47 = .ok (.iconst 1, 1) := by decide +kernel
theorem dX4_piece_48 : decode cX4_piece 48 = .ok (.iadd, 1) := by decide +kernel
theorem dX4_piece_49 : decode cX4_piece 49 = .ok (.invokevirtual 67, 3) := by decide +kernel
theorem dX4_piece_52 : decode cX4_piece 52 = .ok (.ifCond .eq 16, 3) := by decide +kernel
theorem dX4_piece_55 : decode cX4_piece 55 = .ok (.aload_n 0, 1) := by decide +kernel
theorem dX4_piece_56 : decode cX4_piece 56 = .ok (.bipush 41, 2) := by decide +kernel
theorem dX4_piece_58 : decode cX4_piece 58 = .ok (.invokevirtual 58, 3) := by decide +kernel
theorem dX4_piece_61 : decode cX4_piece 61 = .ok (.ifCond .eq 7, 3) := by decide +kernel
theorem dX4_piece_64 : decode cX4_piece 64 = .ok (.iconst 1, 1) := by decide +kernel
