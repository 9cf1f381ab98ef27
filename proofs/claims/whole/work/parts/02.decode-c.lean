theorem dX4_init_0 : decode cX4_init 0 = .ok (.aload_n 0, 1) := by decide +kernel
theorem dX4_init_1 : decode cX4_init 1 = .ok (.invokespecial 1, 3) := by decide +kernel
theorem dX4_init_4 : decode cX4_init 4 = .ok (.aload_n 0, 1) := by decide +kernel
theorem dX4_init_5 : decode cX4_init 5 = .ok (.bipush 75, 2) := by decide +kernel
theorem dX4_init_7 : decode cX4_init 7 = .ok (.newarray .int, 2) := by decide +kernel
theorem dX4_init_9 : decode cX4_init 9 = .ok (.putfield 7, 3) := by decide +kernel
theorem dX4_init_12 : decode cX4_init 12 = .ok (.aload_n 0, 1) := by decide +kernel
theorem dX4_init_13 : decode cX4_init 13 = .ok (.bipush 75, 2) := by decide +kernel
theorem dX4_init_15 : decode cX4_init 15 = .ok (.newarray .int, 2) := by decide +kernel
theorem dX4_init_17 : decode cX4_init 17 = .ok (.putfield 13, 3) := by decide +kernel
theorem dX4_init_20 : decode cX4_init 20 = .ok (.aload_n 0, 1) := by decide +kernel
theorem dX4_init_21 : decode cX4_init 21 = .ok (.bipush 75, 2) := by decide +kernel
theorem dX4_init_23 : decode cX4_init 23 = .ok (.newarray .int, 2) := by decide +kernel
theorem dX4_init_25 : decode cX4_init 25 = .ok (.putfield 16, 3) := by decide +kernel
theorem dX4_init_28 : decode cX4_init 28 = .ok (.aload_n 0, 1) := by decide +kernel
theorem dX4_init_29 : decode cX4_init 29 = .ok (.bipush 75, 2) := by decide +kernel
theorem dX4_init_31 : decode cX4_init 31 = .ok (.newarray .int, 2) := by decide +kernel
theorem dX4_init_33 : decode cX4_init 33 = .ok (.putfield 19, 3) := by decide +kernel
theorem dX4_init_36 : decode cX4_init 36 = .ok (.aload_n 0, 1) := by decide +kernel
theorem dX4_init_37 : decode cX4_init 37 = .ok (.bipush 7, 2) := by decide +kernel
theorem dX4_init_39 : decode cX4_init 39 = .ok (.newarray .int, 2) := by decide +kernel
theorem dX4_init_41 : decode cX4_init 41 = .ok (.putfield 22, 3) := by decide +kernel
theorem dX4_init_44 : decode cX4_init 44 = .ok (.aload_n 0, 1) := by decide +kernel
theorem dX4_init_45 : decode cX4_init 45 = .ok (.bipush 61, 2) := by decide +kernel
theorem dX4_init_47 : decode cX4_init 47 = .ok (.newarray .int, 2) := by decide +kernel
theorem dX4_init_49 : decode cX4_init 49 = .ok (.putfield 25, 3) := by decide +kernel
theorem dX4_init_52 : decode cX4_init 52 = .ok (.aload_n 0, 1) := by decide +kernel
theorem dX4_init_53 : decode cX4_init 53 = .ok (.bipush 120, 2) := by decide +kernel
theorem dX4_init_55 : decode cX4_init 55 = .ok (.newarray .int, 2) := by decide +kernel
theorem dX4_init_57 : decode cX4_init 57 = .ok (.putfield 28, 3) := by decide +kernel
theorem dX4_init_60 : decode cX4_init 60 = .ok (.aload_n 0, 1) := by decide +kernel
theorem dX4_init_61 : decode cX4_init 61 = .ok (.iconst 4, 1) := by decide +kernel
theorem dX4_init_62 : decode cX4_init 62 = .ok (.newarray .int, 2) := by decide +kernel
theorem dX4_init_64 : decode cX4_init 64 = .ok (.putfield 31, 3) := by decide +kernel
theorem dX4_init_67 : decode cX4_init 67 = .ok (.aload_n 0, 1) := by decide +kernel
theorem dX4_init_68 : decode cX4_init 68 = .ok (.iconst 4, 1) := by decide +kernel
theorem dX4_init_69 : decode cX4_init 69 = .ok (.newarray .int, 2) := by decide +kernel
theorem dX4_init_71 : decode cX4_init 71 = .ok (.putfield 34, 3) := by decide +kernel
theorem dX4_init_74 : decode cX4_init 74 = .ok (.aload_n 0, 1) := by decide +kernel
theorem dX4_init_75 : decode cX4_init 75 = .ok (.sipush 160, 3) := by decide +kernel
theorem dX4_init_78 : decode cX4_init 78 = .ok (.newarray .long, 2) := by decide +kernel
theorem dX4_init_80 : decode cX4_init 80 = .ok (.putfield 37, 3) := by decide +kernel
theorem dX4_init_83 : decode cX4_init 83 = .ok (.aload_n 0, 1) := by decide +kernel
theorem dX4_init_84 : decode cX4_init 84 = .ok (.bipush 40, 2) := by decide +kernel
theorem dX4_init_86 : decode cX4_init 86 = .ok (.newarray .long, 2) := by decide +kernel
theorem dX4_init_88 : decode cX4_init 88 = .ok (.putfield 41, 3) := by decide +kernel
theorem dX4_init_91 : decode cX4_init 91 = .ok (.aload_n 0, 1) := by decide +kernel
theorem dX4_init_92 : decode cX4_init 92 = .ok (.getfield 7, 3) := by decide +kernel
theorem dX4_init_95 : decode cX4_init 95 = .ok (.iconst 2, 1) := by decide +kernel
theorem dX4_init_96 : decode cX4_init 96 = .ok (.iconst 4, 1) := by decide +kernel
theorem dX4_init_97 : decode cX4_init 97 = .ok (.iastore, 1) := by decide +kernel
theorem dX4_init_98 : decode cX4_init 98 = .ok (.return_, 1) := by decide +kernel
theorem dX4_in_0 : decode cX4_in 0 = .ok (.lload_n 0, 1) := by decide +kernel
theorem dX4_in_1 : decode cX4_in 1 = .ok (.lload_n 2, 1) := by decide +kernel
theorem dX4_in_2 : decode cX4_in 2 = .ok (.lcmp, 1) := by decide +kernel
theorem dX4_in_3 : decode cX4_in 3 = .ok (.ifCond .lt 14, 3) := by decide +kernel
theorem dX4_in_6 : decode cX4_in 6 = .ok (.lload_n 0, 1) := by decide +kernel
theorem dX4_in_7 : decode cX4_in 7 = .ok (.lload 4, 2) := by decide +kernel
theorem dX4_in_9 : decode cX4_in 9 = .ok (.lcmp, 1) := by decide +kernel
theorem dX4_in_10 : decode cX4_in 10 = .ok (.ifCond .gt 7, 3) := by decide +kernel
theorem dX4_in_13 : decode cX4_in 13 = .ok (.iconst 1, 1) := by decide +kernel
theorem dX4_in_14 : decode cX4_in 14 = .ok (.goto 4, 3) := by decide +kernel
theorem dX4_in_17 : decode cX4_in 17 = .ok (.iconst 0, 1) := by decide +kernel
theorem dX4_in_18 : decode cX4_in 18 = .ok (.ireturn, 1) := by decide +kernel
theorem dX4_finds_0 : decode cX4_finds 0 = .ok (.aload_n 0, 1) := by decide +kernel
theorem dX4_finds_1 : decode cX4_finds 1 = .ok (.getfield 22, 3) := by decide +kernel
theorem dX4_finds_4 : decode cX4_finds 4 = .ok (.ldc 44, 2) := by decide +kernel
theorem dX4_finds_6 : decode cX4_finds 6 = .ok (.iload_n 1, 1) := by decide +kernel
theorem dX4_finds_7 : decode cX4_finds 7 = .ok (.isub, 1) := by decide +kernel
theorem dX4_finds_8 : decode cX4_finds 8 = .ok (.dup2, 1) := by decide +kernel
theorem dX4_finds_9 : decode cX4_finds 9 = .ok (.iaload, 1) := by decide +kernel
theorem dX4_finds_10 : decode cX4_finds 10 = .ok (.iconst 1, 1) := by decide +kernel
theorem dX4_finds_11 : decode cX4_finds 11 = .ok (.iadd, 1) := by decide +kernel
theorem dX4_finds_12 : decode cX4_finds 12 = .ok (.iastore, 1) := by decide +kernel
theorem dX4_finds_13 : decode cX4_finds 13 = .ok (.iload_n 1, 1) := by decide +kernel
theorem dX4_finds_14 : decode cX4_finds 14 = .ok (.ireturn, 1) := by decide +kernel
theorem dX4_saves_0 : decode cX4_saves 0 = .ok (.iconst 0, 1) := by decide +kernel
theorem dX4_saves_1 : decode cX4_saves 1 = .ok (.istore_n 1, 1) := by decide +kernel
theorem dX4_saves_2 : decode cX4_saves 2 = .ok (.iload_n 1, 1) := by decide +kernel
theorem dX4_saves_3 : decode cX4_saves 3 = .ok (.bipush 75, 2) := by decide +kernel
theorem dX4_saves_5 : decode cX4_saves 5 = .ok (.if_icmp .ge 21, 3) := by decide +kernel
theorem dX4_saves_8 : decode cX4_saves 8 = .ok (.aload_n 0, 1) := by decide +kernel
theorem dX4_saves_9 : decode cX4_saves 9 = .ok (.getfield 16, 3) := by decide +kernel
theorem dX4_saves_12 : decode cX4_saves 12 = .ok (.iload_n 1, 1) := by decide +kernel
theorem dX4_saves_13 : decode cX4_saves 13 = .ok (.aload_n 0, 1) := by decide +kernel
theorem dX4_saves_14 : decode cX4_saves 14 = .ok (.getfield 7, 3) := by decide +kernel
theorem dX4_saves_17 : decode cX4_saves 17 = .ok (.iload_n 1, 1) := by decide +kernel
theorem dX4_saves_18 : decode cX4_saves 18 = .ok (.iaload, 1) := by decide +kernel
theorem dX4_saves_19 : decode cX4_saves 19 = .ok (.iastore, 1) := by decide +kernel
theorem dX4_saves_20 : decode cX4_saves 20 = .ok (.iinc 1 1, 3) := by decide +kernel
theorem dX4_saves_23 : decode cX4_saves 23 = .ok (.goto (-21), 3) := by decide +kernel
theorem dX4_saves_26 : decode cX4_saves 26 = .ok (.return_, 1) := by decide +kernel
theorem dX4_putsBack_0 : decode cX4_putsBack 0 = .ok (.iconst 0, 1) := by decide +kernel
theorem dX4_putsBack_1 : decode cX4_putsBack 1 = .ok (.istore_n 1, 1) := by decide +kernel
theorem dX4_putsBack_2 : decode cX4_putsBack 2 = .ok (.iload_n 1, 1) := by decide +kernel
theorem dX4_putsBack_3 : decode cX4_putsBack 3 = .ok (.bipush 75, 2) := by decide +kernel
theorem dX4_putsBack_5 : decode cX4_putsBack 5 = .ok (.if_icmp .ge 21, 3) := by decide +kernel
theorem dX4_putsBack_8 : decode cX4_putsBack 8 = .ok (.aload_n 0, 1) := by decide +kernel
theorem dX4_putsBack_9 : decode cX4_putsBack 9 = .ok (.getfield 7, 3) := by decide +kernel
theorem dX4_putsBack_12 : decode cX4_putsBack 12 = .ok (.iload_n 1, 1) := by decide +kernel
theorem dX4_putsBack_13 : decode cX4_putsBack 13 = .ok (.aload_n 0, 1) := by decide +kernel
theorem dX4_putsBack_14 : decode cX4_putsBack 14 = .ok (.getfield 16, 3) := by decide +kernel
theorem dX4_putsBack_17 : decode cX4_putsBack 17 = .ok (.iload_n 1, 1) := by decide +kernel
theorem dX4_putsBack_18 : decode cX4_putsBack 18 = .ok (.iaload, 1) := by decide +kernel
theorem dX4_putsBack_19 : decode cX4_putsBack 19 = .ok (.iastore, 1) := by decide +kernel
theorem dX4_putsBack_20 : decode cX4_putsBack 20 = .ok (.iinc 1 1, 3) := by decide +kernel
theorem dX4_putsBack_23 : decode cX4_putsBack 23 = .ok (.goto (-21), 3) := by decide +kernel
theorem dX4_putsBack_26 : decode cX4_putsBack 26 = .ok (.return_, 1) := by decide +kernel
theorem dX4_laysAside_0 : decode cX4_laysAside 0 = .ok (.iconst 0, 1) := by decide +kernel
theorem dX4_laysAside_1 : decode cX4_laysAside 1 = .ok (.istore_n 1, 1) := by decide +kernel
theorem dX4_laysAside_2 : decode cX4_laysAside 2 = .ok (.iload_n 1, 1) := by decide +kernel
theorem dX4_laysAside_3 : decode cX4_laysAside 3 = .ok (.bipush 75, 2) := by decide +kernel
theorem dX4_laysAside_5 : decode cX4_laysAside 5 = .ok (.if_icmp .ge 21, 3) := by decide +kernel
theorem dX4_laysAside_8 : decode cX4_laysAside 8 = .ok (.aload_n 0, 1) := by decide +kernel
theorem dX4_laysAside_9 : decode cX4_laysAside 9 = .ok (.getfield 19, 3) := by decide +kernel
theorem dX4_laysAside_12 : decode cX4_laysAside 12 = .ok (.iload_n 1, 1) := by decide +kernel
theorem dX4_laysAside_13 : decode cX4_laysAside 13 = .ok (.aload_n 0, 1) := by decide +kernel
theorem dX4_laysAside_14 : decode cX4_laysAside 14 = .ok (.getfield 7, 3) := by decide +kernel
theorem dX4_laysAside_17 : decode cX4_laysAside 17 = .ok (.iload_n 1, 1) := by decide +kernel
theorem dX4_laysAside_18 : decode cX4_laysAside 18 = .ok (.iaload, 1) := by decide +kernel
theorem dX4_laysAside_19 : decode cX4_laysAside 19 = .ok (.iastore, 1) := by decide +kernel
theorem dX4_laysAside_20 : decode cX4_laysAside 20 = .ok (.iinc 1 1, 3) := by decide +kernel
theorem dX4_laysAside_23 : decode cX4_laysAside 23 = .ok (.goto (-21), 3) := by decide +kernel
theorem dX4_laysAside_26 : decode cX4_laysAside 26 = .ok (.return_, 1) := by decide +kernel
theorem dX4_takesBack_0 : decode cX4_takesBack 0 = .ok (.iconst 0, 1) := by decide +kernel
theorem dX4_takesBack_1 : decode cX4_takesBack 1 = .ok (.istore_n 2, 1) := by decide +kernel
theorem dX4_takesBack_2 : decode cX4_takesBack 2 = .ok (.iload_n 2, 1) := by decide +kernel
theorem dX4_takesBack_3 : decode cX4_takesBack 3 = .ok (.bipush 75, 2) := by decide +kernel
theorem dX4_takesBack_5 : decode cX4_takesBack 5 = .ok (.if_icmp .ge 21, 3) := by decide +kernel
theorem dX4_takesBack_8 : decode cX4_takesBack 8 = .ok (.aload_n 0, 1) := by decide +kernel
theorem dX4_takesBack_9 : decode cX4_takesBack 9 = .ok (.getfield 7, 3) := by decide +kernel
theorem dX4_takesBack_12 : decode cX4_takesBack 12 = .ok (.iload_n 2, 1) := by decide +kernel
theorem dX4_takesBack_13 : decode cX4_takesBack 13 = .ok (.aload_n 0, 1) := by decide +kernel
theorem dX4_takesBack_14 : decode cX4_takesBack 14 = .ok (.getfield 19, 3) := by decide +kernel
theorem dX4_takesBack_17 : decode cX4_takesBack 17 = .ok (.iload_n 2, 1) := by decide +kernel
theorem dX4_takesBack_18 : decode cX4_takesBack 18 = .ok (.iaload, 1) := by decide +kernel
theorem dX4_takesBack_19 : decode cX4_takesBack 19 = .ok (.iastore, 1) := by decide +kernel
theorem dX4_takesBack_20 : decode cX4_takesBack 20 = .ok (.iinc 2 1, 3) := by decide +kernel
theorem dX4_takesBack_23 : decode cX4_takesBack 23 = .ok (.goto (-21), 3) := by decide +kernel
theorem dX4_takesBack_26 : decode cX4_takesBack 26 = .ok (.iload_n 1, 1) := by decide +kernel
theorem dX4_takesBack_27 : decode cX4_takesBack 27 = .ok (.ireturn, 1) := by decide +kernel
theorem dX4_becomes_0 : decode cX4_becomes 0 = .ok (.aload_n 0, 1) := by decide +kernel
theorem dX4_becomes_1 : decode cX4_becomes 1 = .ok (.getfield 7, 3) := by decide +kernel
theorem dX4_becomes_4 : decode cX4_becomes 4 = .ok (.iload_n 1, 1) := by decide +kernel
theorem dX4_becomes_5 : decode cX4_becomes 5 = .ok (.iaload, 1) := by decide +kernel
theorem dX4_becomes_6 : decode cX4_becomes 6 = .ok (.istore_n 3, 1) := by decide +kernel
theorem dX4_becomes_7 : decode cX4_becomes 7 = .ok (.aload_n 0, 1) := by decide +kernel
theorem dX4_becomes_8 : decode cX4_becomes 8 = .ok (.getfield 7, 3) := by decide +kernel
theorem dX4_becomes_11 : decode cX4_becomes 11 = .ok (.iload_n 1, 1) := by decide +kernel
theorem dX4_becomes_12 : decode cX4_becomes 12 = .ok (.iload_n 2, 1) := by decide +kernel
theorem dX4_becomes_13 : decode cX4_becomes 13 = .ok (.iastore, 1) := by decide +kernel
theorem dX4_becomes_14 : decode cX4_becomes 14 = .ok (.iload_n 3, 1) := by decide +kernel
theorem dX4_becomes_15 : decode cX4_becomes 15 = .ok (.ireturn, 1) := by decide +kernel
theorem dX4_spot_0 : decode cX4_spot 0 = .ok (.iconst 3, 1) := by decide +kernel
theorem dX4_spot_1 : decode cX4_spot 1 = .ok (.bipush 9, 2) := by decide +kernel
theorem dX4_spot_3 : decode cX4_spot 3 = .ok (.iload_n 0, 1) := by decide +kernel
theorem dX4_spot_4 : decode cX4_spot 4 = .ok (.imul, 1) := by decide +kernel
theorem dX4_spot_5 : decode cX4_spot 5 = .ok (.iadd, 1) := by decide +kernel
theorem dX4_spot_6 : decode cX4_spot 6 = .ok (.iload_n 1, 1) := by decide +kernel
theorem dX4_spot_7 : decode cX4_spot 7 = .ok (.iadd, 1) := by decide +kernel
theorem dX4_spot_8 : decode cX4_spot 8 = .ok (.ireturn, 1) := by decide +kernel
theorem dX4_its_0 : decode cX4_its 0 = .ok (.aload_n 0, 1) := by decide +kernel
theorem dX4_its_1 : decode cX4_its 1 = .ok (.getfield 7, 3) := by decide +kernel
theorem dX4_its_4 : decode cX4_its 4 = .ok (.iload_n 1, 1) := by decide +kernel
theorem dX4_its_5 : decode cX4_its 5 = .ok (.iload_n 2, 1) := by decide +kernel
theorem dX4_its_6 : decode cX4_its 6 = .ok (.invokestatic 45, 3) := by decide +kernel
theorem dX4_its_9 : decode cX4_its 9 = .ok (.iaload, 1) := by decide +kernel
theorem dX4_its_10 : decode cX4_its 10 = .ok (.ireturn, 1) := by decide +kernel
theorem dX4_isFigure_0 : decode cX4_isFigure 0 = .ok (.iload_n 1, 1) := by decide +kernel
theorem dX4_isFigure_1 : decode cX4_isFigure 1 = .ok (.i2l, 1) := by decide +kernel
theorem dX4_isFigure_2 : decode cX4_isFigure 2 = .ok (.lconst 0, 1) := by decide +kernel
theorem dX4_isFigure_3 : decode cX4_isFigure 3 = .ok (.aload_n 0, 1) := by decide +kernel
theorem dX4_isFigure_4 : decode cX4_isFigure 4 = .ok (.getfield 7, 3) := by decide +kernel
theorem dX4_isFigure_7 : decode cX4_isFigure 7 = .ok (.iconst 1, 1) := by decide +kernel
theorem dX4_isFigure_8 : decode cX4_isFigure 8 = .ok (.iaload, 1) := by decide +kernel
theorem dX4_isFigure_9 : decode cX4_isFigure 9 = .ok (.iconst 1, 1) := by decide +kernel
theorem dX4_isFigure_10 : decode cX4_isFigure 10 = .ok (.isub, 1) := by decide +kernel
theorem dX4_isFigure_11 : decode cX4_isFigure 11 = .ok (.i2l, 1) := by decide +kernel
theorem dX4_isFigure_12 : decode cX4_isFigure 12 = .ok (.invokestatic 49, 3) := by decide +kernel
theorem dX4_isFigure_15 : decode cX4_isFigure 15 = .ok (.ireturn, 1) := by decide +kernel
theorem dX4_isKind_0 : decode cX4_isKind 0 = .ok (.iload_n 0, 1) := by decide +kernel
theorem dX4_isKind_1 : decode cX4_isKind 1 = .ok (.i2l, 1) := by decide +kernel
theorem dX4_isKind_2 : decode cX4_isKind 2 = .ok (.lconst 0, 1) := by decide +kernel
theorem dX4_isKind_3 : decode cX4_isKind 3 = .ok (.ldc2_w 53, 3) := by decide +kernel
theorem dX4_isKind_6 : decode cX4_isKind 6 = .ok (.invokestatic 49, 3) := by decide +kernel
theorem dX4_isKind_9 : decode cX4_isKind 9 = .ok (.ireturn, 1) := by decide +kernel
theorem dX4_held_0 : decode cX4_held 0 = .ok (.iload_n 0, 1) := by decide +kernel
theorem dX4_held_1 : decode cX4_held 1 = .ok (.iload_n 1, 1) := by decide +kernel
theorem dX4_held_2 : decode cX4_held 2 = .ok (.if_icmp .ge 7, 3) := by decide +kernel
theorem dX4_held_5 : decode cX4_held 5 = .ok (.iload_n 1, 1) := by decide +kernel
theorem dX4_held_6 : decode cX4_held 6 = .ok (.goto 13, 3) := by decide +kernel
theorem dX4_held_9 : decode cX4_held 9 = .ok (.iload_n 0, 1) := by decide +kernel
theorem dX4_held_10 : decode cX4_held 10 = .ok (.iload_n 2, 1) := by decide +kernel
theorem dX4_held_11 : decode cX4_held 11 = .ok (.if_icmp .le 7, 3) := by decide +kernel
theorem dX4_held_14 : decode cX4_held 14 = .ok (.iload_n 2, 1) := by decide +kernel
theorem dX4_held_15 : decode cX4_held 15 = .ok (.goto 4, 3) := by decide +kernel
theorem dX4_held_18 : decode cX4_held 18 = .ok (.iload_n 0, 1) := by decide +kernel
theorem dX4_held_19 : decode cX4_held 19 = .ok (.ireturn, 1) := by decide +kernel
theorem dX4_together_0 : decode cX4_together 0 = .ok (.iconst 0, 1) := by decide +kernel
theorem dX4_together_1 : decode cX4_together 1 = .ok (.istore_n 2, 1) := by decide +kernel
theorem dX4_together_2 : decode cX4_together 2 = .ok (.iconst 0, 1) := by decide +kernel
theorem dX4_together_3 : decode cX4_together 3 = .ok (.istore_n 3, 1) := by decide +kernel
theorem dX4_together_4 : decode cX4_together 4 = .ok (.iload_n 3, 1) := by decide +kernel
theorem dX4_together_5 : decode cX4_together 5 = .ok (.aload_n 0, 1) := by decide +kernel
theorem dX4_together_6 : decode cX4_together 6 = .ok (.getfield 7, 3) := by decide +kernel
theorem dX4_together_9 : decode cX4_together 9 = .ok (.iconst 1, 1) := by decide +kernel
theorem dX4_together_10 : decode cX4_together 10 = .ok (.iaload, 1) := by decide +kernel
theorem dX4_together_11 : decode cX4_together 11 = .ok (.if_icmp .ge 18, 3) := by decide +kernel
theorem dX4_together_14 : decode cX4_together 14 = .ok (.iload_n 2, 1) := by decide +kernel
theorem dX4_together_15 : decode cX4_together 15 = .ok (.aload_n 0, 1) := by decide +kernel
theorem dX4_together_16 : decode cX4_together 16 = .ok (.iload_n 3, 1) := by decide +kernel
theorem dX4_together_17 : decode cX4_together 17 = .ok (.iload_n 1, 1) := by decide +kernel
theorem dX4_together_18 : decode cX4_together 18 = .ok (.invokevirtual 55, 3) := by decide +kernel
theorem dX4_together_21 : decode cX4_together 21 = .ok (.iadd, 1) := by decide +kernel
theorem dX4_together_22 : decode cX4_together 22 = .ok (.istore_n 2, 1) := by decide +kernel
theorem dX4_together_23 : decode cX4_together 23 = .ok (.iinc 3 1, 3) := by decide +kernel
theorem dX4_together_26 : decode cX4_together 26 = .ok (.goto (-22), 3) := by decide +kernel
theorem dX4_together_29 : decode cX4_together 29 = .ok (.iload_n 2, 1) := by decide +kernel
theorem dX4_together_30 : decode cX4_together 30 = .ok (.ireturn, 1) := by decide +kernel
theorem dX4_tacky_0 : decode cX4_tacky 0 = .ok (.iload_n 1, 1) := by decide +kernel
theorem dX4_tacky_1 : decode cX4_tacky 1 = .ok (.i2l, 1) := by decide +kernel
theorem dX4_tacky_2 : decode cX4_tacky 2 = .ok (.lconst 0, 1) := by decide +kernel
theorem dX4_tacky_3 : decode cX4_tacky 3 = .ok (.ldc2_w 58, 3) := by decide +kernel
theorem dX4_tacky_6 : decode cX4_tacky 6 = .ok (.invokestatic 49, 3) := by decide +kernel
theorem dX4_tacky_9 : decode cX4_tacky 9 = .ok (.ifCond .eq 12, 3) := by decide +kernel
theorem dX4_tacky_12 : decode cX4_tacky 12 = .ok (.aload_n 0, 1) := by decide +kernel
theorem dX4_tacky_13 : decode cX4_tacky 13 = .ok (.iconst 2, 1) := by decide +kernel
theorem dX4_tacky_14 : decode cX4_tacky 14 = .ok (.iload_n 1, 1) := by decide +kernel
theorem dX4_tacky_15 : decode cX4_tacky 15 = .ok (.invokevirtual 60, 3) := by decide +kernel
theorem dX4_tacky_18 : decode cX4_tacky 18 = .ok (.goto 9, 3) := by decide +kernel
theorem dX4_tacky_21 : decode cX4_tacky 21 = .ok (.aload_n 0, 1) := by decide +kernel
theorem dX4_tacky_22 : decode cX4_tacky 22 = .ok (.ldc 44, 2) := by decide +kernel
theorem dX4_tacky_24 : decode cX4_tacky 24 = .ok (.invokevirtual 63, 3) := by decide +kernel
theorem dX4_tacky_27 : decode cX4_tacky 27 = .ok (.ireturn, 1) := by decide +kernel
theorem dX4_ofNight_0 : decode cX4_ofNight 0 = .ok (.aload_n 0, 1) := by decide +kernel
theorem dX4_ofNight_1 : decode cX4_ofNight 1 = .ok (.getfield 7, 3) := by decide +kernel
theorem dX4_ofNight_4 : decode cX4_ofNight 4 = .ok (.iconst 0, 1) := by decide +kernel
theorem dX4_ofNight_5 : decode cX4_ofNight 5 = .ok (.iaload, 1) := by decide +kernel
theorem dX4_ofNight_6 : decode cX4_ofNight 6 = .ok (.bipush 8, 2) := by decide +kernel
theorem dX4_ofNight_8 : decode cX4_ofNight 8 = .ok (.irem, 1) := by decide +kernel
theorem dX4_ofNight_9 : decode cX4_ofNight 9 = .ok (.ireturn, 1) := by decide +kernel
theorem dX4_isTacky_0 : decode cX4_isTacky 0 = .ok (.aload_n 0, 1) := by decide +kernel
theorem dX4_isTacky_1 : decode cX4_isTacky 1 = .ok (.invokevirtual 67, 3) := by decide +kernel
theorem dX4_isTacky_4 : decode cX4_isTacky 4 = .ok (.aload_n 0, 1) := by decide +kernel
theorem dX4_isTacky_5 : decode cX4_isTacky 5 = .ok (.getfield 7, 3) := by decide +kernel
theorem dX4_isTacky_8 : decode cX4_isTacky 8 = .ok (.iconst 2, 1) := by decide +kernel
theorem dX4_isTacky_9 : decode cX4_isTacky 9 = .ok (.iaload, 1) := by decide +kernel
theorem dX4_isTacky_10 : decode cX4_isTacky 10 = .ok (.if_icmp .lt 7, 3) := by decide +kernel
theorem dX4_isTacky_13 : decode cX4_isTacky 13 = .ok (.iconst 1, 1) := by decide +kernel
theorem dX4_isTacky_14 : decode cX4_isTacky 14 = .ok (.goto 4, 3) := by decide +kernel
theorem dX4_isTacky_17 : decode cX4_isTacky 17 = .ok (.iconst 0, 1) := by decide +kernel
theorem dX4_isTacky_18 : decode cX4_isTacky 18 = .ok (.ireturn, 1) := by decide +kernel
theorem dX4_apart_0 : decode cX4_apart 0 = .ok (.aload_n 0, 1) := by decide +kernel
theorem dX4_apart_1 : decode cX4_apart 1 = .ok (.iload_n 1, 1) := by decide +kernel
theorem dX4_apart_2 : decode cX4_apart 2 = .ok (.iconst 2, 1) := by decide +kernel
theorem dX4_apart_3 : decode cX4_apart 3 = .ok (.invokevirtual 55, 3) := by decide +kernel
theorem dX4_apart_6 : decode cX4_apart 6 = .ok (.aload_n 0, 1) := by decide +kernel
theorem dX4_apart_7 : decode cX4_apart 7 = .ok (.iload_n 2, 1) := by decide +kernel
theorem dX4_apart_8 : decode cX4_apart 8 = .ok (.iconst 2, 1) := by decide +kernel
theorem dX4_apart_9 : decode cX4_apart 9 = .ok (.invokevirtual 55, 3) := by decide +kernel
theorem dX4_apart_12 : decode cX4_apart 12 = .ok (.isub, 1) := by decide +kernel
theorem dX4_apart_13 : decode cX4_apart 13 = .ok (.istore_n 3, 1) := by decide +kernel
theorem dX4_apart_14 : decode cX4_apart 14 = .ok (.iload_n 3, 1) := by decide +kernel
theorem dX4_apart_15 : decode cX4_apart 15 = .ok (.ifCond .ge 9, 3) := by decide +kernel
theorem dX4_apart_18 : decode cX4_apart 18 = .ok (.iconst 0, 1) := by decide +kernel
theorem dX4_apart_19 : decode cX4_apart 19 = .ok (.iload_n 3, 1) := by decide +kernel
theorem dX4_apart_20 : decode cX4_apart 20 = .ok (.isub, 1) := by decide +kernel
theorem dX4_apart_21 : decode cX4_apart 21 = .ok (.goto 4, 3) := by decide +kernel
theorem dX4_apart_24 : decode cX4_apart 24 = .ok (.iload_n 3, 1) := by decide +kernel
theorem dX4_apart_25 : decode cX4_apart 25 = .ok (.ireturn, 1) := by decide +kernel
theorem dX4_isBeside_0 : decode cX4_isBeside 0 = .ok (.aload_n 0, 1) := by decide +kernel
theorem dX4_isBeside_1 : decode cX4_isBeside 1 = .ok (.iload_n 1, 1) := by decide +kernel
theorem dX4_isBeside_2 : decode cX4_isBeside 2 = .ok (.iconst 1, 1) := by decide +kernel
theorem dX4_isBeside_3 : decode cX4_isBeside 3 = .ok (.invokevirtual 55, 3) := by decide +kernel
theorem dX4_isBeside_6 : decode cX4_isBeside 6 = .ok (.aload_n 0, 1) := by decide +kernel
theorem dX4_isBeside_7 : decode cX4_isBeside 7 = .ok (.iload_n 2, 1) := by decide +kernel
theorem dX4_isBeside_8 : decode cX4_isBeside 8 = .ok (.iconst 1, 1) := by decide +kernel
theorem dX4_isBeside_9 : decode cX4_isBeside 9 = .ok (.invokevirtual 55, 3) := by decide +kernel
theorem dX4_isBeside_12 : decode cX4_isBeside 12 = .ok (.if_icmp .ne 7, 3) := by decide +kernel
theorem dX4_isBeside_15 : decode cX4_isBeside 15 = .ok (.iconst 1, 1) := by decide +kernel
theorem dX4_isBeside_16 : decode cX4_isBeside 16 = .ok (.goto 4, 3) := by decide +kernel
theorem dX4_isBeside_19 : decode cX4_isBeside 19 = .ok (.iconst 0, 1) := by decide +kernel
theorem dX4_isBeside_20 : decode cX4_isBeside 20 = .ok (.ireturn, 1) := by decide +kernel
theorem dX4_isWithWhom_0 : decode cX4_isWithWhom 0 = .ok (.aload_n 0, 1) := by decide +kernel
theorem dX4_isWithWhom_1 : decode cX4_isWithWhom 1 = .ok (.iload_n 1, 1) := by decide +kernel
theorem dX4_isWithWhom_2 : decode cX4_isWithWhom 2 = .ok (.bipush 6, 2) := by decide +kernel
theorem dX4_isWithWhom_4 : decode cX4_isWithWhom 4 = .ok (.invokevirtual 55, 3) := by decide +kernel
theorem dX4_isWithWhom_7 : decode cX4_isWithWhom 7 = .ok (.istore_n 2, 1) := by decide +kernel
theorem dX4_isWithWhom_8 : decode cX4_isWithWhom 8 = .ok (.iload_n 2, 1) := by decide +kernel
theorem dX4_isWithWhom_9 : decode cX4_isWithWhom 9 = .ok (.iconst (-1), 1) := by decide +kernel
theorem dX4_isWithWhom_10 : decode cX4_isWithWhom 10 = .ok (.if_icmp .eq 21, 3) := by decide +kernel
theorem dX4_isWithWhom_13 : decode cX4_isWithWhom 13 = .ok (.iload_n 2, 1) := by decide +kernel
theorem dX4_isWithWhom_14 : decode cX4_isWithWhom 14 = .ok (.iload_n 1, 1) := by decide +kernel
theorem dX4_isWithWhom_15 : decode cX4_isWithWhom 15 = .ok (.if_icmp .eq 16, 3) := by decide +kernel
theorem dX4_isWithWhom_18 : decode cX4_isWithWhom 18 = .ok (.aload_n 0, 1) := by decide +kernel
theorem dX4_isWithWhom_19 : decode cX4_isWithWhom 19 = .ok (.iload_n 1, 1) := by decide +kernel
theorem dX4_isWithWhom_20 : decode cX4_isWithWhom 20 = .ok (.iload_n 2, 1) := by decide +kernel
theorem dX4_isWithWhom_21 : decode cX4_isWithWhom 21 = .ok (.invokevirtual 71, 3) := by decide +kernel
theorem dX4_isWithWhom_24 : decode cX4_isWithWhom 24 = .ok (.ifCond .eq 7, 3) := by decide +kernel
theorem dX4_isWithWhom_27 : decode cX4_isWithWhom 27 = .ok (.iconst 1, 1) := by decide +kernel
theorem dX4_isWithWhom_28 : decode cX4_isWithWhom 28 = .ok (.goto 4, 3) := by decide +kernel
theorem dX4_isWithWhom_31 : decode cX4_isWithWhom 31 = .ok (.iconst 0, 1) := by decide +kernel
theorem dX4_isWithWhom_32 : decode cX4_isWithWhom 32 = .ok (.ireturn, 1) := by decide +kernel
theorem dX4_isContent_0 : decode cX4_isContent 0 = .ok (.aload_n 0, 1) := by decide +kernel
theorem dX4_isContent_1 : decode cX4_isContent 1 = .ok (.iload_n 1, 1) := by decide +kernel
theorem dX4_isContent_2 : decode cX4_isContent 2 = .ok (.iconst 5, 1) := by decide +kernel
theorem dX4_isContent_3 : decode cX4_isContent 3 = .ok (.invokevirtual 55, 3) := by decide +kernel
theorem dX4_isContent_6 : decode cX4_isContent 6 = .ok (.tableswitch 123 0 3 #[30, 47, 77, 108], 30) := by decide +kernel
theorem dX4_isContent_36 : decode cX4_isContent 36 = .ok (.aload_n 0, 1) := by decide +kernel
theorem dX4_isContent_37 : decode cX4_isContent 37 = .ok (.iload_n 1, 1) := by decide +kernel
theorem dX4_isContent_38 : decode cX4_isContent 38 = .ok (.iconst 3, 1) := by decide +kernel
theorem dX4_isContent_39 : decode cX4_isContent 39 = .ok (.invokevirtual 55, 3) := by decide +kernel
theorem dX4_isContent_42 : decode cX4_isContent 42 = .ok (.bipush 10, 2) := by decide +kernel
theorem dX4_isContent_44 : decode cX4_isContent 44 = .ok (.if_icmp .gt 7, 3) := by decide +kernel
theorem dX4_isContent_47 : decode cX4_isContent 47 = .ok (.iconst 1, 1) := by decide +kernel
theorem dX4_isContent_48 : decode cX4_isContent 48 = .ok (.goto 4, 3) := by decide +kernel
theorem dX4_isContent_51 : decode cX4_isContent 51 = .ok (.iconst 0, 1) := by decide +kernel
theorem dX4_isContent_52 : decode cX4_isContent 52 = .ok (.ireturn, 1) := by decide +kernel
theorem dX4_isContent_53 : decode cX4_isContent 53 = .ok (.aload_n 0, 1) := by decide +kernel
theorem dX4_isContent_54 : decode cX4_isContent 54 = .ok (.iload_n 1, 1) := by decide +kernel
theorem dX4_isContent_55 : decode cX4_isContent 55 = .ok (.invokevirtual 75, 3) := by decide +kernel
theorem dX4_isContent_58 : decode cX4_isContent 58 = .ok (.ifCond .eq 19, 3) := by decide +kernel
theorem dX4_isContent_61 : decode cX4_isContent 61 = .ok (.aload_n 0, 1) := by decide +kernel
theorem dX4_isContent_62 : decode cX4_isContent 62 = .ok (.iload_n 1, 1) := by decide +kernel
theorem dX4_isContent_63 : decode cX4_isContent 63 = .ok (.aload_n 0, 1) := by decide +kernel
theorem dX4_isContent_64 : decode cX4_isContent 64 = .ok (.iload_n 1, 1) := by decide +kernel
theorem dX4_isContent_65 : decode cX4_isContent 65 = .ok (.bipush 6, 2) := by decide +kernel
theorem dX4_isContent_67 : decode cX4_isContent 67 = .ok (.invokevirtual 55, 3) := by decide +kernel
theorem dX4_isContent_70 : decode cX4_isContent 70 = .ok (.invokevirtual 79, 3) := by decide +kernel
theorem dX4_isContent_73 : decode cX4_isContent 73 = .ok (.iconst 1, 1) := by decide +kernel
theorem dX4_isContent_74 : decode cX4_isContent 74 = .ok (.if_icmp .gt 7, 3) := by decide +kernel
theorem dX4_isContent_77 : decode cX4_isContent 77 = .ok (.iconst 1, 1) := by decide +kernel
theorem dX4_isContent_78 : decode cX4_isContent 78 = .ok (.goto 4, 3) := by decide +kernel
theorem dX4_isContent_81 : decode cX4_isContent 81 = .ok (.iconst 0, 1) := by decide +kernel
theorem dX4_isContent_82 : decode cX4_isContent 82 = .ok (.ireturn, 1) := by decide +kernel
theorem dX4_isContent_83 : decode cX4_isContent 83 = .ok (.aload_n 0, 1) := by decide +kernel
theorem dX4_isContent_84 : decode cX4_isContent 84 = .ok (.iload_n 1, 1) := by decide +kernel
theorem dX4_isContent_85 : decode cX4_isContent 85 = .ok (.invokevirtual 75, 3) := by decide +kernel
theorem dX4_isContent_88 : decode cX4_isContent 88 = .ok (.ifCond .eq 20, 3) := by decide +kernel
theorem dX4_isContent_91 : decode cX4_isContent 91 = .ok (.aload_n 0, 1) := by decide +kernel
theorem dX4_isContent_92 : decode cX4_isContent 92 = .ok (.iload_n 1, 1) := by decide +kernel
theorem dX4_isContent_93 : decode cX4_isContent 93 = .ok (.aload_n 0, 1) := by decide +kernel
theorem dX4_isContent_94 : decode cX4_isContent 94 = .ok (.iload_n 1, 1) := by decide +kernel
theorem dX4_isContent_95 : decode cX4_isContent 95 = .ok (.bipush 6, 2) := by decide +kernel
theorem dX4_isContent_97 : decode cX4_isContent 97 = .ok (.invokevirtual 55, 3) := by decide +kernel
theorem dX4_isContent_100 : decode cX4_isContent 100 = .ok (.invokevirtual 79, 3) := by decide +kernel
theorem dX4_isContent_103 : decode cX4_isContent 103 = .ok (.bipush 10, 2) := by decide +kernel
theorem dX4_isContent_105 : decode cX4_isContent 105 = .ok (.if_icmp .lt 7, 3) := by decide +kernel
theorem dX4_isContent_108 : decode cX4_isContent 108 = .ok (.iconst 1, 1) := by decide +kernel
theorem dX4_isContent_109 : decode cX4_isContent 109 = .ok (.goto 4, 3) := by decide +kernel
theorem dX4_isContent_112 : decode cX4_isContent 112 = .ok (.iconst 0, 1) := by decide +kernel
theorem dX4_isContent_113 : decode cX4_isContent 113 = .ok (.ireturn, 1) := by decide +kernel
theorem dX4_isContent_114 : decode cX4_isContent 114 = .ok (.aload_n 0, 1) := by decide +kernel
theorem dX4_isContent_115 : decode cX4_isContent 115 = .ok (.iload_n 1, 1) := by decide +kernel
theorem dX4_isContent_116 : decode cX4_isContent 116 = .ok (.iconst 4, 1) := by decide +kernel
theorem dX4_isContent_117 : decode cX4_isContent 117 = .ok (.invokevirtual 55, 3) := by decide +kernel
theorem dX4_isContent_120 : decode cX4_isContent 120 = .ok (.ifCond .ne 7, 3) := by decide +kernel
theorem dX4_isContent_123 : decode cX4_isContent 123 = .ok (.iconst 1, 1) := by decide +kernel
theorem dX4_isContent_124 : decode cX4_isContent 124 = .ok (.goto 4, 3) := by decide +kernel
theorem dX4_isContent_127 : decode cX4_isContent 127 = .ok (.iconst 0, 1) := by decide +kernel
theorem dX4_isContent_128 : decode cX4_isContent 128 = .ok (.ireturn, 1) := by decide +kernel
theorem dX4_isContent_129 : decode cX4_isContent 129 = .ok (.aload_n 0, 1) := by decide +kernel
theorem dX4_isContent_130 : decode cX4_isContent 130 = .ok (.iload_n 1, 1) := by decide +kernel
theorem dX4_isContent_131 : decode cX4_isContent 131 = .ok (.iconst 4, 1) := by decide +kernel
theorem dX4_isContent_132 : decode cX4_isContent 132 = .ok (.invokevirtual 55, 3) := by decide +kernel
theorem dX4_isContent_135 : decode cX4_isContent 135 = .ok (.iconst 1, 1) := by decide +kernel
theorem dX4_isContent_136 : decode cX4_isContent 136 = .ok (.if_icmp .ne 7, 3) := by decide +kernel
theorem dX4_isContent_139 : decode cX4_isContent 139 = .ok (.iconst 1, 1) := by decide +kernel
theorem dX4_isContent_140 : decode cX4_isContent 140 = .ok (.goto 4, 3) := by decide +kernel
theorem dX4_isContent_143 : decode cX4_isContent 143 = .ok (.iconst 0, 1) := by decide +kernel
theorem dX4_isContent_144 : decode cX4_isContent 144 = .ok (.ireturn, 1) := by decide +kernel
theorem dX4_lampsOn_0 : decode cX4_lampsOn 0 = .ok (.iconst 0, 1) := by decide +kernel
theorem dX4_lampsOn_1 : decode cX4_lampsOn 1 = .ok (.istore_n 2, 1) := by decide +kernel
theorem dX4_lampsOn_2 : decode cX4_lampsOn 2 = .ok (.iconst 0, 1) := by decide +kernel
theorem dX4_lampsOn_3 : decode cX4_lampsOn 3 = .ok (.istore_n 3, 1) := by decide +kernel
theorem dX4_lampsOn_4 : decode cX4_lampsOn 4 = .ok (.iload_n 3, 1) := by decide +kernel
theorem dX4_lampsOn_5 : decode cX4_lampsOn 5 = .ok (.aload_n 0, 1) := by decide +kernel
theorem dX4_lampsOn_6 : decode cX4_lampsOn 6 = .ok (.getfield 7, 3) := by decide +kernel
theorem dX4_lampsOn_9 : decode cX4_lampsOn 9 = .ok (.iconst 1, 1) := by decide +kernel
theorem dX4_lampsOn_10 : decode cX4_lampsOn 10 = .ok (.iaload, 1) := by decide +kernel
theorem dX4_lampsOn_11 : decode cX4_lampsOn 11 = .ok (.if_icmp .ge 48, 3) := by decide +kernel
theorem dX4_lampsOn_14 : decode cX4_lampsOn 14 = .ok (.iload_n 2, 1) := by decide +kernel
theorem dX4_lampsOn_15 : decode cX4_lampsOn 15 = .ok (.aload_n 0, 1) := by decide +kernel
theorem dX4_lampsOn_16 : decode cX4_lampsOn 16 = .ok (.iload_n 1, 1) := by decide +kernel
theorem dX4_lampsOn_17 : decode cX4_lampsOn 17 = .ok (.iload_n 3, 1) := by decide +kernel
theorem dX4_lampsOn_18 : decode cX4_lampsOn 18 = .ok (.invokevirtual 71, 3) := by decide +kernel
theorem dX4_lampsOn_21 : decode cX4_lampsOn 21 = .ok (.ifCond .eq 29, 3) := by decide +kernel
theorem dX4_lampsOn_24 : decode cX4_lampsOn 24 = .ok (.aload_n 0, 1) := by decide +kernel
theorem dX4_lampsOn_25 : decode cX4_lampsOn 25 = .ok (.iload_n 3, 1) := by decide +kernel
theorem dX4_lampsOn_26 : decode cX4_lampsOn 26 = .ok (.iconst 4, 1) := by decide +kernel
theorem dX4_lampsOn_27 : decode cX4_lampsOn 27 = .ok (.invokevirtual 55, 3) := by decide +kernel
theorem dX4_lampsOn_30 : decode cX4_lampsOn 30 = .ok (.iconst 1, 1) := by decide +kernel
theorem dX4_lampsOn_31 : decode cX4_lampsOn 31 = .ok (.if_icmp .ne 19, 3) := by decide +kernel
theorem dX4_lampsOn_34 : decode cX4_lampsOn 34 = .ok (.aload_n 0, 1) := by decide +kernel
theorem dX4_lampsOn_35 : decode cX4_lampsOn 35 = .ok (.iload_n 1, 1) := by decide +kernel
theorem dX4_lampsOn_36 : decode cX4_lampsOn 36 = .ok (.iload_n 3, 1) := by decide +kernel
theorem dX4_lampsOn_37 : decode cX4_lampsOn 37 = .ok (.invokevirtual 79, 3) := by decide +kernel
theorem dX4_lampsOn_40 : decode cX4_lampsOn 40 = .ok (.iconst 3, 1) := by decide +kernel
theorem dX4_lampsOn_41 : decode cX4_lampsOn 41 = .ok (.if_icmp .gt 9, 3) := by decide +kernel
theorem dX4_lampsOn_44 : decode cX4_lampsOn 44 = .ok (.iconst 1, 1) := by decide +kernel
theorem dX4_lampsOn_45 : decode cX4_lampsOn 45 = .ok (.iload_n 3, 1) := by decide +kernel
theorem dX4_lampsOn_46 : decode cX4_lampsOn 46 = .ok (.ishl, 1) := by decide +kernel
theorem dX4_lampsOn_47 : decode cX4_lampsOn 47 = .ok (.goto 4, 3) := by decide +kernel
theorem dX4_lampsOn_50 : decode cX4_lampsOn 50 = .ok (.iconst 0, 1) := by decide +kernel
theorem dX4_lampsOn_51 : decode cX4_lampsOn 51 = .ok (.ior, 1) := by decide +kernel
theorem dX4_lampsOn_52 : decode cX4_lampsOn 52 = .ok (.istore_n 2, 1) := by decide +kernel
theorem dX4_lampsOn_53 : decode cX4_lampsOn 53 = .ok (.iinc 3 1, 3) := by decide +kernel
theorem dX4_lampsOn_56 : decode cX4_lampsOn 56 = .ok (.goto (-52), 3) := by decide +kernel
theorem dX4_lampsOn_59 : decode cX4_lampsOn 59 = .ok (.iload_n 2, 1) := by decide +kernel
theorem dX4_lampsOn_60 : decode cX4_lampsOn 60 = .ok (.ireturn, 1) := by decide +kernel
theorem dX4_beside_0 : decode cX4_beside 0 = .ok (.iconst 0, 1) := by decide +kernel
theorem dX4_beside_1 : decode cX4_beside 1 = .ok (.istore_n 2, 1) := by decide +kernel
theorem dX4_beside_2 : decode cX4_beside 2 = .ok (.iconst 0, 1) := by decide +kernel
theorem dX4_beside_3 : decode cX4_beside 3 = .ok (.istore_n 3, 1) := by decide +kernel
theorem dX4_beside_4 : decode cX4_beside 4 = .ok (.iload_n 3, 1) := by decide +kernel
theorem dX4_beside_5 : decode cX4_beside 5 = .ok (.aload_n 0, 1) := by decide +kernel
theorem dX4_beside_6 : decode cX4_beside 6 = .ok (.getfield 7, 3) := by decide +kernel
theorem dX4_beside_9 : decode cX4_beside 9 = .ok (.iconst 1, 1) := by decide +kernel
theorem dX4_beside_10 : decode cX4_beside 10 = .ok (.iaload, 1) := by decide +kernel
theorem dX4_beside_11 : decode cX4_beside 11 = .ok (.if_icmp .ge 31, 3) := by decide +kernel
theorem dX4_beside_14 : decode cX4_beside 14 = .ok (.iload_n 2, 1) := by decide +kernel
theorem dX4_beside_15 : decode cX4_beside 15 = .ok (.iload_n 3, 1) := by decide +kernel
theorem dX4_beside_16 : decode cX4_beside 16 = .ok (.iload_n 1, 1) := by decide +kernel
theorem dX4_beside_17 : decode cX4_beside 17 = .ok (.if_icmp .eq 16, 3) := by decide +kernel
theorem dX4_beside_20 : decode cX4_beside 20 = .ok (.aload_n 0, 1) := by decide +kernel
theorem dX4_beside_21 : decode cX4_beside 21 = .ok (.iload_n 1, 1) := by decide +kernel
theorem dX4_beside_22 : decode cX4_beside 22 = .ok (.iload_n 3, 1) := by decide +kernel
theorem dX4_beside_23 : decode cX4_beside 23 = .ok (.invokevirtual 71, 3) := by decide +kernel
theorem dX4_beside_26 : decode cX4_beside 26 = .ok (.ifCond .eq 7, 3) := by decide +kernel
theorem dX4_beside_29 : decode cX4_beside 29 = .ok (.iconst 1, 1) := by decide +kernel
theorem dX4_beside_30 : decode cX4_beside 30 = .ok (.goto 4, 3) := by decide +kernel
theorem dX4_beside_33 : decode cX4_beside 33 = .ok (.iconst 0, 1) := by decide +kernel
theorem dX4_beside_34 : decode cX4_beside 34 = .ok (.iadd, 1) := by decide +kernel
theorem dX4_beside_35 : decode cX4_beside 35 = .ok (.istore_n 2, 1) := by decide +kernel
theorem dX4_beside_36 : decode cX4_beside 36 = .ok (.iinc 3 1, 3) := by decide +kernel
theorem dX4_beside_39 : decode cX4_beside 39 = .ok (.goto (-35), 3) := by decide +kernel
theorem dX4_beside_42 : decode cX4_beside 42 = .ok (.iload_n 2, 1) := by decide +kernel
theorem dX4_beside_43 : decode cX4_beside 43 = .ok (.ireturn, 1) := by decide +kernel
theorem dX4_isAnyOtherCross_0 : decode cX4_isAnyOtherCross 0 = .ok (.iconst 0, 1) := by decide +kernel
theorem dX4_isAnyOtherCross_1 : decode cX4_isAnyOtherCross 1 = .ok (.istore_n 2, 1) := by decide +kernel
theorem dX4_isAnyOtherCross_2 : decode cX4_isAnyOtherCross 2 = .ok (.iconst 0, 1) := by decide +kernel
theorem dX4_isAnyOtherCross_3 : decode cX4_isAnyOtherCross 3 = .ok (.istore_n 3, 1) := by decide +kernel
theorem dX4_isAnyOtherCross_4 : decode cX4_isAnyOtherCross 4 = .ok (.iload_n 3, 1) := by decide +kernel
theorem dX4_isAnyOtherCross_5 : decode cX4_isAnyOtherCross 5 = .ok (.aload_n 0, 1) := by decide +kernel
theorem dX4_isAnyOtherCross_6 : decode cX4_isAnyOtherCross 6 = .ok (.getfield 7, 3) := by decide +kernel
theorem dX4_isAnyOtherCross_9 : decode cX4_isAnyOtherCross 9 = .ok (.iconst 1, 1) := by decide +kernel
theorem dX4_isAnyOtherCross_10 : decode cX4_isAnyOtherCross 10 = .ok (.iaload, 1) := by decide +kernel
theorem dX4_isAnyOtherCross_11 : decode cX4_isAnyOtherCross 11 = .ok (.if_icmp .ge 39, 3) := by decide +kernel
theorem dX4_isAnyOtherCross_14 : decode cX4_isAnyOtherCross 14 = .ok (.iload_n 2, 1) := by decide +kernel
theorem dX4_isAnyOtherCross_15 : decode cX4_isAnyOtherCross 15 = .ok (.iload_n 3, 1) := by decide +kernel
theorem dX4_isAnyOtherCross_16 : decode cX4_isAnyOtherCross 16 = .ok (.iload_n 1, 1) := by decide +kernel
theorem dX4_isAnyOtherCross_17 : decode cX4_isAnyOtherCross 17 = .ok (.if_icmp .eq 24, 3) := by decide +kernel
theorem dX4_isAnyOtherCross_20 : decode cX4_isAnyOtherCross 20 = .ok (.aload_n 0, 1) := by decide +kernel
theorem dX4_isAnyOtherCross_21 : decode cX4_isAnyOtherCross 21 = .ok (.iload_n 1, 1) := by decide +kernel
theorem dX4_isAnyOtherCross_22 : decode cX4_isAnyOtherCross 22 = .ok (.iload_n 3, 1) := by decide +kernel
theorem dX4_isAnyOtherCross_23 : decode cX4_isAnyOtherCross 23 = .ok (.invokevirtual 71, 3) := by decide +kernel
theorem dX4_isAnyOtherCross_26 : decode cX4_isAnyOtherCross 26 = .ok (.ifCond .eq 15, 3) := by decide +kernel
theorem dX4_isAnyOtherCross_29 : decode cX4_isAnyOtherCross 29 = .ok (.aload_n 0, 1) := by decide +kernel
theorem dX4_isAnyOtherCross_30 : decode cX4_isAnyOtherCross 30 = .ok (.iload_n 3, 1) := by decide +kernel
theorem dX4_isAnyOtherCross_31 : decode cX4_isAnyOtherCross 31 = .ok (.invokevirtual 82, 3) := by decide +kernel
theorem dX4_isAnyOtherCross_34 : decode cX4_isAnyOtherCross 34 = .ok (.ifCond .ne 7, 3) := by decide +kernel
theorem dX4_isAnyOtherCross_37 : decode cX4_isAnyOtherCross 37 = .ok (.iconst 1, 1) := by decide +kernel
theorem dX4_isAnyOtherCross_38 : decode cX4_isAnyOtherCross 38 = .ok (.goto 4, 3) := by decide +kernel
theorem dX4_isAnyOtherCross_41 : decode cX4_isAnyOtherCross 41 = .ok (.iconst 0, 1) := by decide +kernel
theorem dX4_isAnyOtherCross_42 : decode cX4_isAnyOtherCross 42 = .ok (.ior, 1) := by decide +kernel
theorem dX4_isAnyOtherCross_43 : decode cX4_isAnyOtherCross 43 = .ok (.istore_n 2, 1) := by decide +kernel
theorem dX4_isAnyOtherCross_44 : decode cX4_isAnyOtherCross 44 = .ok (.iinc 3 1, 3) := by decide +kernel
theorem dX4_isAnyOtherCross_47 : decode cX4_isAnyOtherCross 47 = .ok (.goto (-43), 3) := by decide +kernel
theorem dX4_isAnyOtherCross_50 : decode cX4_isAnyOtherCross 50 = .ok (.iload_n 2, 1) := by decide +kernel
theorem dX4_isAnyOtherCross_51 : decode cX4_isAnyOtherCross 51 = .ok (.ireturn, 1) := by decide +kernel
theorem dX4_rubsOf_0 : decode cX4_rubsOf 0 = .ok (.aload_n 0, 1) := by decide +kernel
theorem dX4_rubsOf_1 : decode cX4_rubsOf 1 = .ok (.invokevirtual 85, 3) := by decide +kernel
theorem dX4_rubsOf_4 : decode cX4_rubsOf 4 = .ok (.ifCond .eq 7, 3) := by decide +kernel
theorem dX4_rubsOf_7 : decode cX4_rubsOf 7 = .ok (.iconst 2, 1) := by decide +kernel
theorem dX4_rubsOf_8 : decode cX4_rubsOf 8 = .ok (.goto 4, 3) := by decide +kernel
theorem dX4_rubsOf_11 : decode cX4_rubsOf 11 = .ok (.iconst 4, 1) := by decide +kernel
theorem dX4_rubsOf_12 : decode cX4_rubsOf 12 = .ok (.istore_n 2, 1) := by decide +kernel
theorem dX4_rubsOf_13 : decode cX4_rubsOf 13 = .ok (.iload_n 2, 1) := by decide +kernel
theorem dX4_rubsOf_14 : decode cX4_rubsOf 14 = .ok (.aload_n 0, 1) := by decide +kernel
theorem dX4_rubsOf_15 : decode cX4_rubsOf 15 = .ok (.iload_n 1, 1) := by decide +kernel
theorem dX4_rubsOf_16 : decode cX4_rubsOf 16 = .ok (.iconst 3, 1) := by decide +kernel
theorem dX4_rubsOf_17 : decode cX4_rubsOf 17 = .ok (.invokevirtual 55, 3) := by decide +kernel
theorem dX4_rubsOf_20 : decode cX4_rubsOf 20 = .ok (.bipush 20, 2) := by decide +kernel
theorem dX4_rubsOf_22 : decode cX4_rubsOf 22 = .ok (.idiv, 1) := by decide +kernel
theorem dX4_rubsOf_23 : decode cX4_rubsOf 23 = .ok (.iadd, 1) := by decide +kernel
theorem dX4_rubsOf_24 : decode cX4_rubsOf 24 = .ok (.istore_n 3, 1) := by decide +kernel
theorem dX4_rubsOf_25 : decode cX4_rubsOf 25 = .ok (.aload_n 0, 1) := by decide +kernel
theorem dX4_rubsOf_26 : decode cX4_rubsOf 26 = .ok (.iload_n 1, 1) := by decide +kernel
theorem dX4_rubsOf_27 : decode cX4_rubsOf 27 = .ok (.iconst 0, 1) := by decide +kernel
theorem dX4_rubsOf_28 : decode cX4_rubsOf 28 = .ok (.invokevirtual 55, 3) := by decide +kernel
theorem dX4_rubsOf_31 : decode cX4_rubsOf 31 = .ok (.tableswitch 60 1 5 #[33, 60, 35, 37, 52], 33) := by decide +kernel
theorem dX4_rubsOf_64 : decode cX4_rubsOf 64 = .ok (.iload_n 3, 1) := by decide +kernel
theorem dX4_rubsOf_65 : decode cX4_rubsOf 65 = .ok (.ireturn, 1) := by decide +kernel
theorem dX4_rubsOf_66 : decode cX4_rubsOf 66 = .ok (.iconst 0, 1) := by decide +kernel
theorem dX4_rubsOf_67 : decode cX4_rubsOf 67 = .ok (.ireturn, 1) := by decide +kernel
theorem dX4_rubsOf_68 : decode cX4_rubsOf 68 = .ok (.aload_n 0, 1) := by decide +kernel
theorem dX4_rubsOf_69 : decode cX4_rubsOf 69 = .ok (.invokevirtual 85, 3) := by decide +kernel
theorem dX4_rubsOf_72 : decode cX4_rubsOf 72 = .ok (.ifCond .eq 7, 3) := by decide +kernel
theorem dX4_rubsOf_75 : decode cX4_rubsOf 75 = .ok (.iload_n 3, 1) := by decide +kernel
theorem dX4_rubsOf_76 : decode cX4_rubsOf 76 = .ok (.goto 6, 3) := by decide +kernel
theorem dX4_rubsOf_79 : decode cX4_rubsOf 79 = .ok (.iconst 2, 1) := by decide +kernel
theorem dX4_rubsOf_80 : decode cX4_rubsOf 80 = .ok (.iload_n 3, 1) := by decide +kernel
theorem dX4_rubsOf_81 : decode cX4_rubsOf 81 = .ok (.imul, 1) := by decide +kernel
theorem dX4_rubsOf_82 : decode cX4_rubsOf 82 = .ok (.ireturn, 1) := by decide +kernel
theorem dX4_rubsOf_83 : decode cX4_rubsOf 83 = .ok (.iload_n 2, 1) := by decide +kernel
theorem dX4_rubsOf_84 : decode cX4_rubsOf 84 = .ok (.aload_n 0, 1) := by decide +kernel
theorem dX4_rubsOf_85 : decode cX4_rubsOf 85 = .ok (.iload_n 1, 1) := by decide +kernel
theorem dX4_rubsOf_86 : decode cX4_rubsOf 86 = .ok (.invokevirtual 89, 3) := by decide +kernel
theorem dX4_rubsOf_89 : decode cX4_rubsOf 89 = .ok (.iadd, 1) := by decide +kernel
theorem dX4_rubsOf_90 : decode cX4_rubsOf 90 = .ok (.ireturn, 1) := by decide +kernel
theorem dX4_rubsOf_91 : decode cX4_rubsOf 91 = .ok (.iload_n 2, 1) := by decide +kernel
theorem dX4_rubsOf_92 : decode cX4_rubsOf 92 = .ok (.ireturn, 1) := by decide +kernel
theorem dX4_isWaiting_0 : decode cX4_isWaiting 0 = .ok (.aload_n 0, 1) := by decide +kernel
theorem dX4_isWaiting_1 : decode cX4_isWaiting 1 = .ok (.iload_n 1, 1) := by decide +kernel
theorem dX4_isWaiting_2 : decode cX4_isWaiting 2 = .ok (.invokevirtual 92, 3) := by decide +kernel
theorem dX4_isWaiting_5 : decode cX4_isWaiting 5 = .ok (.iconst 1, 1) := by decide +kernel
theorem dX4_isWaiting_6 : decode cX4_isWaiting 6 = .ok (.iload_n 1, 1) := by decide +kernel
theorem dX4_isWaiting_7 : decode cX4_isWaiting 7 = .ok (.ishl, 1) := by decide +kernel
theorem dX4_isWaiting_8 : decode cX4_isWaiting 8 = .ok (.iconst (-1), 1) := by decide +kernel
theorem dX4_isWaiting_9 : decode cX4_isWaiting 9 = .ok (.ixor, 1) := by decide +kernel
theorem dX4_isWaiting_10 : decode cX4_isWaiting 10 = .ok (.iand, 1) := by decide +kernel
theorem dX4_isWaiting_11 : decode cX4_isWaiting 11 = .ok (.ifCond .eq 7, 3) := by decide +kernel
theorem dX4_isWaiting_14 : decode cX4_isWaiting 14 = .ok (.iconst 1, 1) := by decide +kernel
theorem dX4_isWaiting_15 : decode cX4_isWaiting 15 = .ok (.goto 4, 3) := by decide +kernel
theorem dX4_isWaiting_18 : decode cX4_isWaiting 18 = .ok (.iconst 0, 1) := by decide +kernel
theorem dX4_isWaiting_19 : decode cX4_isWaiting 19 = .ok (.istore_n 2, 1) := by decide +kernel
theorem dX4_isWaiting_20 : decode cX4_isWaiting 20 = .ok (.aload_n 0, 1) := by decide +kernel
theorem dX4_isWaiting_21 : decode cX4_isWaiting 21 = .ok (.invokevirtual 67, 3) := by decide +kernel
theorem dX4_isWaiting_24 : decode cX4_isWaiting 24 = .ok (.ifCond .ne 7, 3) := by decide +kernel
theorem dX4_isWaiting_27 : decode cX4_isWaiting 27 = .ok (.iconst 1, 1) := by decide +kernel
theorem dX4_isWaiting_28 : decode cX4_isWaiting 28 = .ok (.goto 4, 3) := by decide +kernel
theorem dX4_isWaiting_31 : decode cX4_isWaiting 31 = .ok (.iconst 0, 1) := by decide +kernel
theorem dX4_isWaiting_32 : decode cX4_isWaiting 32 = .ok (.istore_n 3, 1) := by decide +kernel
theorem dX4_isWaiting_33 : decode cX4_isWaiting 33 = .ok (.aload_n 0, 1) := by decide +kernel
theorem dX4_isWaiting_34 : decode cX4_isWaiting 34 = .ok (.iload_n 1, 1) := by decide +kernel
theorem dX4_isWaiting_35 : decode cX4_isWaiting 35 = .ok (.iconst 0, 1) := by decide +kernel
theorem dX4_isWaiting_36 : decode cX4_isWaiting 36 = .ok (.invokevirtual 55, 3) := by decide +kernel
theorem dX4_isWaiting_39 : decode cX4_isWaiting 39 = .ok (.tableswitch 77 1 5 #[33, 35, 37, 39, 59], 33) := by decide +kernel
theorem dX4_isWaiting_72 : decode cX4_isWaiting 72 = .ok (.iload_n 2, 1) := by decide +kernel
theorem dX4_isWaiting_73 : decode cX4_isWaiting 73 = .ok (.ireturn, 1) := by decide +kernel
theorem dX4_isWaiting_74 : decode cX4_isWaiting 74 = .ok (.iload_n 3, 1) := by decide +kernel
theorem dX4_isWaiting_75 : decode cX4_isWaiting 75 = .ok (.ireturn, 1) := by decide +kernel
theorem dX4_isWaiting_76 : decode cX4_isWaiting 76 = .ok (.iconst 1, 1) := by decide +kernel
theorem dX4_isWaiting_77 : decode cX4_isWaiting 77 = .ok (.ireturn, 1) := by decide +kernel
theorem dX4_isWaiting_78 : decode cX4_isWaiting 78 = .ok (.iload_n 2, 1) := by decide +kernel
theorem dX4_isWaiting_79 : decode cX4_isWaiting 79 = .ok (.ifCond .eq 17, 3) := by decide +kernel
theorem dX4_isWaiting_82 : decode cX4_isWaiting 82 = .ok (.aload_n 0, 1) := by decide +kernel
theorem dX4_isWaiting_83 : decode cX4_isWaiting 83 = .ok (.invokevirtual 67, 3) := by decide +kernel
theorem dX4_isWaiting_86 : decode cX4_isWaiting 86 = .ok (.iconst 2, 1) := by decide +kernel
theorem dX4_isWaiting_87 : decode cX4_isWaiting 87 = .ok (.irem, 1) := by decide +kernel
theorem dX4_isWaiting_88 : decode cX4_isWaiting 88 = .ok (.iconst 1, 1) := by decide +kernel
theorem dX4_isWaiting_89 : decode cX4_isWaiting 89 = .ok (.if_icmp .ne 7, 3) := by decide +kernel
theorem dX4_isWaiting_92 : decode cX4_isWaiting 92 = .ok (.iconst 1, 1) := by decide +kernel
theorem dX4_isWaiting_93 : decode cX4_isWaiting 93 = .ok (.goto 4, 3) := by decide +kernel
theorem dX4_isWaiting_96 : decode cX4_isWaiting 96 = .ok (.iconst 0, 1) := by decide +kernel
theorem dX4_isWaiting_97 : decode cX4_isWaiting 97 = .ok (.ireturn, 1) := by decide +kernel
theorem dX4_isWaiting_98 : decode cX4_isWaiting 98 = .ok (.iload_n 3, 1) := by decide +kernel
theorem dX4_isWaiting_99 : decode cX4_isWaiting 99 = .ok (.ifCond .ne 11, 3) := by decide +kernel
theorem dX4_isWaiting_102 : decode cX4_isWaiting 102 = .ok (.aload_n 0, 1) := by decide +kernel
theorem dX4_isWaiting_103 : decode cX4_isWaiting 103 = .ok (.iload_n 1, 1) := by decide +kernel
theorem dX4_isWaiting_104 : decode cX4_isWaiting 104 = .ok (.invokevirtual 95, 3) := by decide +kernel
theorem dX4_isWaiting_107 : decode cX4_isWaiting 107 = .ok (.ifCond .eq 7, 3) := by decide +kernel
theorem dX4_isWaiting_110 : decode cX4_isWaiting 110 = .ok (.iconst 1, 1) := by decide +kernel
theorem dX4_isWaiting_111 : decode cX4_isWaiting 111 = .ok (.goto 4, 3) := by decide +kernel
theorem dX4_isWaiting_114 : decode cX4_isWaiting 114 = .ok (.iconst 0, 1) := by decide +kernel
theorem dX4_isWaiting_115 : decode cX4_isWaiting 115 = .ok (.ireturn, 1) := by decide +kernel
theorem dX4_isWaiting_116 : decode cX4_isWaiting 116 = .ok (.iconst 0, 1) := by decide +kernel
theorem dX4_isWaiting_117 : decode cX4_isWaiting 117 = .ok (.ireturn, 1) := by decide +kernel
theorem dX4_content_0 : decode cX4_content 0 = .ok (.iconst 0, 1) := by decide +kernel
theorem dX4_content_1 : decode cX4_content 1 = .ok (.istore_n 1, 1) := by decide +kernel
theorem dX4_content_2 : decode cX4_content 2 = .ok (.iconst 0, 1) := by decide +kernel
theorem dX4_content_3 : decode cX4_content 3 = .ok (.istore_n 2, 1) := by decide +kernel
theorem dX4_content_4 : decode cX4_content 4 = .ok (.iload_n 2, 1) := by decide +kernel
theorem dX4_content_5 : decode cX4_content 5 = .ok (.aload_n 0, 1) := by decide +kernel
theorem dX4_content_6 : decode cX4_content 6 = .ok (.getfield 7, 3) := by decide +kernel
theorem dX4_content_9 : decode cX4_content 9 = .ok (.iconst 1, 1) := by decide +kernel
theorem dX4_content_10 : decode cX4_content 10 = .ok (.iaload, 1) := by decide +kernel
theorem dX4_content_11 : decode cX4_content 11 = .ok (.if_icmp .ge 27, 3) := by decide +kernel
theorem dX4_content_14 : decode cX4_content 14 = .ok (.iload_n 1, 1) := by decide +kernel
theorem dX4_content_15 : decode cX4_content 15 = .ok (.aload_n 0, 1) := by decide +kernel
theorem dX4_content_16 : decode cX4_content 16 = .ok (.iload_n 2, 1) := by decide +kernel
theorem dX4_content_17 : decode cX4_content 17 = .ok (.invokevirtual 82, 3) := by decide +kernel
theorem dX4_content_20 : decode cX4_content 20 = .ok (.ifCond .eq 9, 3) := by decide +kernel
theorem dX4_content_23 : decode cX4_content 23 = .ok (.iconst 1, 1) := by decide +kernel
theorem dX4_content_24 : decode cX4_content 24 = .ok (.iload_n 2, 1) := by decide +kernel
theorem dX4_content_25 : decode cX4_content 25 = .ok (.ishl, 1) := by decide +kernel
theorem dX4_content_26 : decode cX4_content 26 = .ok (.goto 4, 3) := by decide +kernel
theorem dX4_content_29 : decode cX4_content 29 = .ok (.iconst 0, 1) := by decide +kernel
theorem dX4_content_30 : decode cX4_content 30 = .ok (.ior, 1) := by decide +kernel
theorem dX4_content_31 : decode cX4_content 31 = .ok (.istore_n 1, 1) := by decide +kernel
theorem dX4_content_32 : decode cX4_content 32 = .ok (.iinc 2 1, 3) := by decide +kernel
theorem dX4_content_35 : decode cX4_content 35 = .ok (.goto (-31), 3) := by decide +kernel
theorem dX4_content_38 : decode cX4_content 38 = .ok (.iload_n 1, 1) := by decide +kernel
theorem dX4_content_39 : decode cX4_content 39 = .ok (.ireturn, 1) := by decide +kernel
theorem dX4_waiting_0 : decode cX4_waiting 0 = .ok (.iconst 0, 1) := by decide +kernel
theorem dX4_waiting_1 : decode cX4_waiting 1 = .ok (.istore_n 1, 1) := by decide +kernel
theorem dX4_waiting_2 : decode cX4_waiting 2 = .ok (.iconst 0, 1) := by decide +kernel
theorem dX4_waiting_3 : decode cX4_waiting 3 = .ok (.istore_n 2, 1) := by decide +kernel
theorem dX4_waiting_4 : decode cX4_waiting 4 = .ok (.iload_n 2, 1) := by decide +kernel
theorem dX4_waiting_5 : decode cX4_waiting 5 = .ok (.aload_n 0, 1) := by decide +kernel
theorem dX4_waiting_6 : decode cX4_waiting 6 = .ok (.getfield 7, 3) := by decide +kernel
theorem dX4_waiting_9 : decode cX4_waiting 9 = .ok (.iconst 1, 1) := by decide +kernel
theorem dX4_waiting_10 : decode cX4_waiting 10 = .ok (.iaload, 1) := by decide +kernel
theorem dX4_waiting_11 : decode cX4_waiting 11 = .ok (.if_icmp .ge 27, 3) := by decide +kernel
theorem dX4_waiting_14 : decode cX4_waiting 14 = .ok (.iload_n 1, 1) := by decide +kernel
theorem dX4_waiting_15 : decode cX4_waiting 15 = .ok (.aload_n 0, 1) := by decide +kernel
theorem dX4_waiting_16 : decode cX4_waiting 16 = .ok (.iload_n 2, 1) := by decide +kernel
theorem dX4_waiting_17 : decode cX4_waiting 17 = .ok (.invokevirtual 98, 3) := by decide +kernel
theorem dX4_waiting_20 : decode cX4_waiting 20 = .ok (.ifCond .eq 9, 3) := by decide +kernel
theorem dX4_waiting_23 : decode cX4_waiting 23 = .ok (.iconst 1, 1) := by decide +kernel
theorem dX4_waiting_24 : decode cX4_waiting 24 = .ok (.iload_n 2, 1) := by decide +kernel
theorem dX4_waiting_25 : decode cX4_waiting 25 = .ok (.ishl, 1) := by decide +kernel
theorem dX4_waiting_26 : decode cX4_waiting 26 = .ok (.goto 4, 3) := by decide +kernel
theorem dX4_waiting_29 : decode cX4_waiting 29 = .ok (.iconst 0, 1) := by decide +kernel
theorem dX4_waiting_30 : decode cX4_waiting 30 = .ok (.ior, 1) := by decide +kernel
theorem dX4_waiting_31 : decode cX4_waiting 31 = .ok (.istore_n 1, 1) := by decide +kernel
theorem dX4_waiting_32 : decode cX4_waiting 32 = .ok (.iinc 2 1, 3) := by decide +kernel
theorem dX4_waiting_35 : decode cX4_waiting 35 = .ok (.goto (-31), 3) := by decide +kernel
theorem dX4_waiting_38 : decode cX4_waiting 38 = .ok (.iload_n 1, 1) := by decide +kernel
theorem dX4_waiting_39 : decode cX4_waiting 39 = .ok (.ireturn, 1) := by decide +kernel
theorem dX4_seenOnes_0 : decode cX4_seenOnes 0 = .ok (.iconst 0, 1) := by decide +kernel
theorem dX4_seenOnes_1 : decode cX4_seenOnes 1 = .ok (.istore_n 1, 1) := by decide +kernel
theorem dX4_seenOnes_2 : decode cX4_seenOnes 2 = .ok (.iconst 0, 1) := by decide +kernel
theorem dX4_seenOnes_3 : decode cX4_seenOnes 3 = .ok (.istore_n 2, 1) := by decide +kernel
theorem dX4_seenOnes_4 : decode cX4_seenOnes 4 = .ok (.iload_n 2, 1) := by decide +kernel
theorem dX4_seenOnes_5 : decode cX4_seenOnes 5 = .ok (.aload_n 0, 1) := by decide +kernel
theorem dX4_seenOnes_6 : decode cX4_seenOnes 6 = .ok (.getfield 7, 3) := by decide +kernel
theorem dX4_seenOnes_9 : decode cX4_seenOnes 9 = .ok (.iconst 1, 1) := by decide +kernel
theorem dX4_seenOnes_10 : decode cX4_seenOnes 10 = .ok (.iaload, 1) := by decide +kernel
theorem dX4_seenOnes_11 : decode cX4_seenOnes 11 = .ok (.if_icmp .ge 27, 3) := by decide +kernel
theorem dX4_seenOnes_14 : decode cX4_seenOnes 14 = .ok (.iload_n 1, 1) := by decide +kernel
theorem dX4_seenOnes_15 : decode cX4_seenOnes 15 = .ok (.aload_n 0, 1) := by decide +kernel
theorem dX4_seenOnes_16 : decode cX4_seenOnes 16 = .ok (.iload_n 2, 1) := by decide +kernel
theorem dX4_seenOnes_17 : decode cX4_seenOnes 17 = .ok (.invokevirtual 92, 3) := by decide +kernel
theorem dX4_seenOnes_20 : decode cX4_seenOnes 20 = .ok (.ifCond .eq 9, 3) := by decide +kernel
theorem dX4_seenOnes_23 : decode cX4_seenOnes 23 = .ok (.iconst 1, 1) := by decide +kernel
theorem dX4_seenOnes_24 : decode cX4_seenOnes 24 = .ok (.iload_n 2, 1) := by decide +kernel
theorem dX4_seenOnes_25 : decode cX4_seenOnes 25 = .ok (.ishl, 1) := by decide +kernel
theorem dX4_seenOnes_26 : decode cX4_seenOnes 26 = .ok (.goto 4, 3) := by decide +kernel
theorem dX4_seenOnes_29 : decode cX4_seenOnes 29 = .ok (.iconst 0, 1) := by decide +kernel
theorem dX4_seenOnes_30 : decode cX4_seenOnes 30 = .ok (.ior, 1) := by decide +kernel
theorem dX4_seenOnes_31 : decode cX4_seenOnes 31 = .ok (.istore_n 1, 1) := by decide +kernel
theorem dX4_seenOnes_32 : decode cX4_seenOnes 32 = .ok (.iinc 2 1, 3) := by decide +kernel
theorem dX4_seenOnes_35 : decode cX4_seenOnes 35 = .ok (.goto (-31), 3) := by decide +kernel
theorem dX4_seenOnes_38 : decode cX4_seenOnes 38 = .ok (.iload_n 1, 1) := by decide +kernel
theorem dX4_seenOnes_39 : decode cX4_seenOnes 39 = .ok (.ireturn, 1) := by decide +kernel
theorem dX4_outOnes_0 : decode cX4_outOnes 0 = .ok (.iconst 0, 1) := by decide +kernel
theorem dX4_outOnes_1 : decode cX4_outOnes 1 = .ok (.istore_n 1, 1) := by decide +kernel
theorem dX4_outOnes_2 : decode cX4_outOnes 2 = .ok (.iconst 0, 1) := by decide +kernel
theorem dX4_outOnes_3 : decode cX4_outOnes 3 = .ok (.istore_n 2, 1) := by decide +kernel
theorem dX4_outOnes_4 : decode cX4_outOnes 4 = .ok (.iload_n 2, 1) := by decide +kernel
theorem dX4_outOnes_5 : decode cX4_outOnes 5 = .ok (.aload_n 0, 1) := by decide +kernel
theorem dX4_outOnes_6 : decode cX4_outOnes 6 = .ok (.getfield 7, 3) := by decide +kernel
theorem dX4_outOnes_9 : decode cX4_outOnes 9 = .ok (.iconst 1, 1) := by decide +kernel
theorem dX4_outOnes_10 : decode cX4_outOnes 10 = .ok (.iaload, 1) := by decide +kernel
theorem dX4_outOnes_11 : decode cX4_outOnes 11 = .ok (.if_icmp .ge 21, 3) := by decide +kernel
theorem dX4_outOnes_14 : decode cX4_outOnes 14 = .ok (.iload_n 1, 1) := by decide +kernel
theorem dX4_outOnes_15 : decode cX4_outOnes 15 = .ok (.aload_n 0, 1) := by decide +kernel
theorem dX4_outOnes_16 : decode cX4_outOnes 16 = .ok (.iload_n 2, 1) := by decide +kernel
theorem dX4_outOnes_17 : decode cX4_outOnes 17 = .ok (.bipush 7, 2) := by decide +kernel
theorem dX4_outOnes_19 : decode cX4_outOnes 19 = .ok (.invokevirtual 55, 3) := by decide +kernel
theorem dX4_outOnes_22 : decode cX4_outOnes 22 = .ok (.iload_n 2, 1) := by decide +kernel
theorem dX4_outOnes_23 : decode cX4_outOnes 23 = .ok (.ishl, 1) := by decide +kernel
theorem dX4_outOnes_24 : decode cX4_outOnes 24 = .ok (.ior, 1) := by decide +kernel
theorem dX4_outOnes_25 : decode cX4_outOnes 25 = .ok (.istore_n 1, 1) := by decide +kernel
theorem dX4_outOnes_26 : decode cX4_outOnes 26 = .ok (.iinc 2 1, 3) := by decide +kernel
theorem dX4_outOnes_29 : decode cX4_outOnes 29 = .ok (.goto (-25), 3) := by decide +kernel
theorem dX4_outOnes_32 : decode cX4_outOnes 32 = .ok (.iload_n 1, 1) := by decide +kernel
theorem dX4_outOnes_33 : decode cX4_outOnes 33 = .ok (.ireturn, 1) := by decide +kernel
theorem dX4_now_0 : decode cX4_now 0 = .ok (.iload_n 1, 1) := by decide +kernel
theorem dX4_now_1 : decode cX4_now 1 = .ok (.tableswitch 99 0 7 #[47, 54, 59, 72, 77, 82, 87, 92], 47) := by decide +kernel
theorem dX4_now_48 : decode cX4_now 48 = .ok (.aload_n 0, 1) := by decide +kernel
theorem dX4_now_49 : decode cX4_now 49 = .ok (.getfield 7, 3) := by decide +kernel
theorem dX4_now_52 : decode cX4_now 52 = .ok (.iconst 0, 1) := by decide +kernel
theorem dX4_now_53 : decode cX4_now 53 = .ok (.iaload, 1) := by decide +kernel
theorem dX4_now_54 : decode cX4_now 54 = .ok (.ireturn, 1) := by decide +kernel
theorem dX4_now_55 : decode cX4_now 55 = .ok (.aload_n 0, 1) := by decide +kernel
theorem dX4_now_56 : decode cX4_now 56 = .ok (.invokevirtual 67, 3) := by decide +kernel
theorem dX4_now_59 : decode cX4_now 59 = .ok (.ireturn, 1) := by decide +kernel
theorem dX4_now_60 : decode cX4_now 60 = .ok (.aload_n 0, 1) := by decide +kernel
theorem dX4_now_61 : decode cX4_now 61 = .ok (.invokevirtual 85, 3) := by decide +kernel
theorem dX4_now_64 : decode cX4_now 64 = .ok (.ifCond .eq 7, 3) := by decide +kernel
theorem dX4_now_67 : decode cX4_now 67 = .ok (.iconst 1, 1) := by decide +kernel
theorem dX4_now_68 : decode cX4_now 68 = .ok (.goto 4, 3) := by decide +kernel
theorem dX4_now_71 : decode cX4_now 71 = .ok (.iconst 0, 1) := by decide +kernel
theorem dX4_now_72 : decode cX4_now 72 = .ok (.ireturn, 1) := by decide +kernel
theorem dX4_now_73 : decode cX4_now 73 = .ok (.aload_n 0, 1) := by decide +kernel
theorem dX4_now_74 : decode cX4_now 74 = .ok (.invokevirtual 101, 3) := by decide +kernel
theorem dX4_now_77 : decode cX4_now 77 = .ok (.ireturn, 1) := by decide +kernel
theorem dX4_now_78 : decode cX4_now 78 = .ok (.aload_n 0, 1) := by decide +kernel
theorem dX4_now_79 : decode cX4_now 79 = .ok (.invokevirtual 104, 3) := by decide +kernel
theorem dX4_now_82 : decode cX4_now 82 = .ok (.ireturn, 1) := by decide +kernel
theorem dX4_now_83 : decode cX4_now 83 = .ok (.aload_n 0, 1) := by decide +kernel
theorem dX4_now_84 : decode cX4_now 84 = .ok (.invokevirtual 107, 3) := by decide +kernel
theorem dX4_now_87 : decode cX4_now 87 = .ok (.ireturn, 1) := by decide +kernel
theorem dX4_now_88 : decode cX4_now 88 = .ok (.aload_n 0, 1) := by decide +kernel
theorem dX4_now_89 : decode cX4_now 89 = .ok (.invokevirtual 110, 3) := by decide +kernel
theorem dX4_now_92 : decode cX4_now 92 = .ok (.ireturn, 1) := by decide +kernel
theorem dX4_now_93 : decode cX4_now 93 = .ok (.aload_n 0, 1) := by decide +kernel
theorem dX4_now_94 : decode cX4_now 94 = .ok (.bipush 8, 2) := by decide +kernel
theorem dX4_now_96 : decode cX4_now 96 = .ok (.invokevirtual 113, 3) := by decide +kernel
theorem dX4_now_99 : decode cX4_now 99 = .ok (.ireturn, 1) := by decide +kernel
theorem dX4_now_100 : decode cX4_now 100 = .ok (.aload_n 0, 1) := by decide +kernel
theorem dX4_now_101 : decode cX4_now 101 = .ok (.ldc 44, 2) := by decide +kernel
theorem dX4_now_103 : decode cX4_now 103 = .ok (.invokevirtual 63, 3) := by decide +kernel
theorem dX4_now_106 : decode cX4_now 106 = .ok (.ireturn, 1) := by decide +kernel
theorem dX4_hangs_0 : decode cX4_hangs 0 = .ok (.iload_n 1, 1) := by decide +kernel
theorem dX4_hangs_1 : decode cX4_hangs 1 = .ok (.i2l, 1) := by decide +kernel
theorem dX4_hangs_2 : decode cX4_hangs 2 = .ok (.lconst 0, 1) := by decide +kernel
theorem dX4_hangs_3 : decode cX4_hangs 3 = .ok (.ldc2_w 116, 3) := by decide +kernel
theorem dX4_hangs_6 : decode cX4_hangs 6 = .ok (.invokestatic 49, 3) := by decide +kernel
theorem dX4_hangs_9 : decode cX4_hangs 9 = .ok (.ifCond .ne 10, 3) := by decide +kernel
theorem dX4_hangs_12 : decode cX4_hangs 12 = .ok (.aload_n 0, 1) := by decide +kernel
theorem dX4_hangs_13 : decode cX4_hangs 13 = .ok (.ldc 44, 2) := by decide +kernel
theorem dX4_hangs_15 : decode cX4_hangs 15 = .ok (.invokevirtual 63, 3) := by decide +kernel
theorem dX4_hangs_18 : decode cX4_hangs 18 = .ok (.ireturn, 1) := by decide +kernel
theorem dX4_hangs_19 : decode cX4_hangs 19 = .ok (.iconst 0, 1) := by decide +kernel
theorem dX4_hangs_20 : decode cX4_hangs 20 = .ok (.istore_n 2, 1) := by decide +kernel
theorem dX4_hangs_21 : decode cX4_hangs 21 = .ok (.iconst 0, 1) := by decide +kernel
theorem dX4_hangs_22 : decode cX4_hangs 22 = .ok (.istore_n 3, 1) := by decide +kernel
theorem dX4_hangs_23 : decode cX4_hangs 23 = .ok (.iload_n 3, 1) := by decide +kernel
theorem dX4_hangs_24 : decode cX4_hangs 24 = .ok (.aload_n 0, 1) := by decide +kernel
theorem dX4_hangs_25 : decode cX4_hangs 25 = .ok (.getfield 7, 3) := by decide +kernel
theorem dX4_hangs_28 : decode cX4_hangs 28 = .ok (.iconst 1, 1) := by decide +kernel
theorem dX4_hangs_29 : decode cX4_hangs 29 = .ok (.iaload, 1) := by decide +kernel
theorem dX4_hangs_30 : decode cX4_hangs 30 = .ok (.if_icmp .ge 29, 3) := by decide +kernel
theorem dX4_hangs_33 : decode cX4_hangs 33 = .ok (.iload_n 2, 1) := by decide +kernel
theorem dX4_hangs_34 : decode cX4_hangs 34 = .ok (.aload_n 0, 1) := by decide +kernel
theorem dX4_hangs_35 : decode cX4_hangs 35 = .ok (.iload_n 3, 1) := by decide +kernel
theorem dX4_hangs_36 : decode cX4_hangs 36 = .ok (.iconst 1, 1) := by decide +kernel
theorem dX4_hangs_37 : decode cX4_hangs 37 = .ok (.invokevirtual 55, 3) := by decide +kernel
theorem dX4_hangs_40 : decode cX4_hangs 40 = .ok (.iload_n 1, 1) := by decide +kernel
theorem dX4_hangs_41 : decode cX4_hangs 41 = .ok (.if_icmp .ne 9, 3) := by decide +kernel
theorem dX4_hangs_44 : decode cX4_hangs 44 = .ok (.iconst 1, 1) := by decide +kernel
theorem dX4_hangs_45 : decode cX4_hangs 45 = .ok (.iload_n 3, 1) := by decide +kernel
theorem dX4_hangs_46 : decode cX4_hangs 46 = .ok (.ishl, 1) := by decide +kernel
theorem dX4_hangs_47 : decode cX4_hangs 47 = .ok (.goto 4, 3) := by decide +kernel
theorem dX4_hangs_50 : decode cX4_hangs 50 = .ok (.iconst 0, 1) := by decide +kernel
theorem dX4_hangs_51 : decode cX4_hangs 51 = .ok (.ior, 1) := by decide +kernel
theorem dX4_hangs_52 : decode cX4_hangs 52 = .ok (.istore_n 2, 1) := by decide +kernel
theorem dX4_hangs_53 : decode cX4_hangs 53 = .ok (.iinc 3 1, 3) := by decide +kernel
theorem dX4_hangs_56 : decode cX4_hangs 56 = .ok (.goto (-33), 3) := by decide +kernel
theorem dX4_hangs_59 : decode cX4_hangs 59 = .ok (.iload_n 2, 1) := by decide +kernel
theorem dX4_hangs_60 : decode cX4_hangs 60 = .ok (.ireturn, 1) := by decide +kernel
theorem dX4_adds_0 : decode cX4_adds 0 = .ok (.aload_n 0, 1) := by decide +kernel
theorem dX4_adds_1 : decode cX4_adds 1 = .ok (.getfield 7, 3) := by decide +kernel
theorem dX4_adds_4 : decode cX4_adds 4 = .ok (.iconst 1, 1) := by decide +kernel
theorem dX4_adds_5 : decode cX4_adds 5 = .ok (.iaload, 1) := by decide +kernel
theorem dX4_adds_6 : decode cX4_adds 6 = .ok (.istore 4, 2) := by decide +kernel
theorem dX4_adds_8 : decode cX4_adds 8 = .ok (.aload_n 0, 1) := by decide +kernel
theorem dX4_adds_9 : decode cX4_adds 9 = .ok (.getfield 7, 3) := by decide +kernel
theorem dX4_adds_12 : decode cX4_adds 12 = .ok (.iconst 1, 1) := by decide +kernel
theorem dX4_adds_13 : decode cX4_adds 13 = .ok (.dup2, 1) := by decide +kernel
theorem dX4_adds_14 : decode cX4_adds 14 = .ok (.iaload, 1) := by decide +kernel
theorem dX4_adds_15 : decode cX4_adds 15 = .ok (.iconst 1, 1) := by decide +kernel
theorem dX4_adds_16 : decode cX4_adds 16 = .ok (.iadd, 1) := by decide +kernel
theorem dX4_adds_17 : decode cX4_adds 17 = .ok (.iastore, 1) := by decide +kernel
theorem dX4_adds_18 : decode cX4_adds 18 = .ok (.iconst 0, 1) := by decide +kernel
theorem dX4_adds_19 : decode cX4_adds 19 = .ok (.istore 5, 2) := by decide +kernel
theorem dX4_adds_21 : decode cX4_adds 21 = .ok (.iload 5, 2) := by decide +kernel
theorem dX4_adds_23 : decode cX4_adds 23 = .ok (.bipush 8, 2) := by decide +kernel
theorem dX4_adds_25 : decode cX4_adds 25 = .ok (.if_icmp .gt 22, 3) := by decide +kernel
theorem dX4_adds_28 : decode cX4_adds 28 = .ok (.aload_n 0, 1) := by decide +kernel
theorem dX4_adds_29 : decode cX4_adds 29 = .ok (.getfield 7, 3) := by decide +kernel
theorem dX4_adds_32 : decode cX4_adds 32 = .ok (.iload 4, 2) := by decide +kernel
theorem dX4_adds_34 : decode cX4_adds 34 = .ok (.iload 5, 2) := by decide +kernel
theorem dX4_adds_36 : decode cX4_adds 36 = .ok (.invokestatic 45, 3) := by decide +kernel
theorem dX4_adds_39 : decode cX4_adds 39 = .ok (.iconst 0, 1) := by decide +kernel
theorem dX4_adds_40 : decode cX4_adds 40 = .ok (.iastore, 1) := by decide +kernel
theorem dX4_adds_41 : decode cX4_adds 41 = .ok (.iinc 5 1, 3) := by decide +kernel
theorem dX4_adds_44 : decode cX4_adds 44 = .ok (.goto (-23), 3) := by decide +kernel
theorem dX4_adds_47 : decode cX4_adds 47 = .ok (.aload_n 0, 1) := by decide +kernel
theorem dX4_adds_48 : decode cX4_adds 48 = .ok (.getfield 7, 3) := by decide +kernel
theorem dX4_adds_51 : decode cX4_adds 51 = .ok (.iload 4, 2) := by decide +kernel
theorem dX4_adds_53 : decode cX4_adds 53 = .ok (.iconst 0, 1) := by decide +kernel
theorem dX4_adds_54 : decode cX4_adds 54 = .ok (.invokestatic 45, 3) := by decide +kernel
theorem dX4_adds_57 : decode cX4_adds 57 = .ok (.iload_n 1, 1) := by decide +kernel
theorem dX4_adds_58 : decode cX4_adds 58 = .ok (.iastore, 1) := by decide +kernel
theorem dX4_adds_59 : decode cX4_adds 59 = .ok (.aload_n 0, 1) := by decide +kernel
theorem dX4_adds_60 : decode cX4_adds 60 = .ok (.getfield 7, 3) := by decide +kernel
theorem dX4_adds_63 : decode cX4_adds 63 = .ok (.iload 4, 2) := by decide +kernel
theorem dX4_adds_65 : decode cX4_adds 65 = .ok (.iconst 1, 1) := by decide +kernel
theorem dX4_adds_66 : decode cX4_adds 66 = .ok (.invokestatic 45, 3) := by decide +kernel
theorem dX4_adds_69 : decode cX4_adds 69 = .ok (.iload_n 2, 1) := by decide +kernel
theorem dX4_adds_70 : decode cX4_adds 70 = .ok (.iastore, 1) := by decide +kernel
theorem dX4_adds_71 : decode cX4_adds 71 = .ok (.aload_n 0, 1) := by decide +kernel
theorem dX4_adds_72 : decode cX4_adds 72 = .ok (.getfield 7, 3) := by decide +kernel
theorem dX4_adds_75 : decode cX4_adds 75 = .ok (.iload 4, 2) := by decide +kernel
theorem dX4_adds_77 : decode cX4_adds 77 = .ok (.iconst 2, 1) := by decide +kernel
theorem dX4_adds_78 : decode cX4_adds 78 = .ok (.invokestatic 45, 3) := by decide +kernel
theorem dX4_adds_81 : decode cX4_adds 81 = .ok (.iload_n 3, 1) := by decide +kernel
theorem dX4_adds_82 : decode cX4_adds 82 = .ok (.iastore, 1) := by decide +kernel
theorem dX4_adds_83 : decode cX4_adds 83 = .ok (.aload_n 0, 1) := by decide +kernel
theorem dX4_adds_84 : decode cX4_adds 84 = .ok (.getfield 7, 3) := by decide +kernel
theorem dX4_adds_87 : decode cX4_adds 87 = .ok (.iload 4, 2) := by decide +kernel
theorem dX4_adds_89 : decode cX4_adds 89 = .ok (.iconst 3, 1) := by decide +kernel
theorem dX4_adds_90 : decode cX4_adds 90 = .ok (.invokestatic 45, 3) := by decide +kernel
theorem dX4_adds_93 : decode cX4_adds 93 = .ok (.bipush 50, 2) := by decide +kernel
theorem dX4_adds_95 : decode cX4_adds 95 = .ok (.iastore, 1) := by decide +kernel
theorem dX4_adds_96 : decode cX4_adds 96 = .ok (.aload_n 0, 1) := by decide +kernel
theorem dX4_adds_97 : decode cX4_adds 97 = .ok (.getfield 7, 3) := by decide +kernel
theorem dX4_adds_100 : decode cX4_adds 100 = .ok (.iload 4, 2) := by decide +kernel
theorem dX4_adds_102 : decode cX4_adds 102 = .ok (.bipush 6, 2) := by decide +kernel
theorem dX4_adds_104 : decode cX4_adds 104 = .ok (.invokestatic 45, 3) := by decide +kernel
theorem dX4_adds_107 : decode cX4_adds 107 = .ok (.iconst (-1), 1) := by decide +kernel
theorem dX4_adds_108 : decode cX4_adds 108 = .ok (.iastore, 1) := by decide +kernel
theorem dX4_adds_109 : decode cX4_adds 109 = .ok (.iload 4, 2) := by decide +kernel
theorem dX4_adds_111 : decode cX4_adds 111 = .ok (.ireturn, 1) := by decide +kernel
theorem dX4_figure_0 : decode cX4_figure 0 = .ok (.iload_n 1, 1) := by decide +kernel
theorem dX4_figure_1 : decode cX4_figure 1 = .ok (.invokestatic 118, 3) := by decide +kernel
theorem dX4_figure_4 : decode cX4_figure 4 = .ok (.ifCond .eq 27, 3) := by decide +kernel
theorem dX4_figure_7 : decode cX4_figure 7 = .ok (.iload_n 2, 1) := by decide +kernel
theorem dX4_figure_8 : decode cX4_figure 8 = .ok (.i2l, 1) := by decide +kernel
theorem dX4_figure_9 : decode cX4_figure 9 = .ok (.lconst 0, 1) := by decide +kernel
theorem dX4_figure_10 : decode cX4_figure 10 = .ok (.ldc2_w 116, 3) := by decide +kernel
theorem dX4_figure_13 : decode cX4_figure 13 = .ok (.invokestatic 49, 3) := by decide +kernel
theorem dX4_figure_16 : decode cX4_figure 16 = .ok (.ifCond .eq 15, 3) := by decide +kernel
theorem dX4_figure_19 : decode cX4_figure 19 = .ok (.iload_n 3, 1) := by decide +kernel
theorem dX4_figure_20 : decode cX4_figure 20 = .ok (.i2l, 1) := by decide +kernel
theorem dX4_figure_21 : decode cX4_figure 21 = .ok (.lconst 0, 1) := by decide +kernel
theorem dX4_figure_22 : decode cX4_figure 22 = .ok (.ldc2_w 121, 3) := by decide +kernel
theorem dX4_figure_25 : decode cX4_figure 25 = .ok (.invokestatic 49, 3) := by decide +kernel
theorem dX4_figure_28 : decode cX4_figure 28 = .ok (.ifCond .ne 10, 3) := by decide +kernel
theorem dX4_figure_31 : decode cX4_figure 31 = .ok (.aload_n 0, 1) := by decide +kernel
theorem dX4_figure_32 : decode cX4_figure 32 = .ok (.ldc 44, 2) := by decide +kernel
theorem dX4_figure_34 : decode cX4_figure 34 = .ok (.invokevirtual 63, 3) := by decide +kernel
theorem dX4_figure_37 : decode cX4_figure 37 = .ok (.ireturn, 1) := by decide +kernel
theorem dX4_figure_38 : decode cX4_figure 38 = .ok (.aload_n 0, 1) := by decide +kernel
theorem dX4_figure_39 : decode cX4_figure 39 = .ok (.getfield 7, 3) := by decide +kernel
theorem dX4_figure_42 : decode cX4_figure 42 = .ok (.iconst 1, 1) := by decide +kernel
theorem dX4_figure_43 : decode cX4_figure 43 = .ok (.iaload, 1) := by decide +kernel
theorem dX4_figure_44 : decode cX4_figure 44 = .ok (.bipush 8, 2) := by decide +kernel
theorem dX4_figure_46 : decode cX4_figure 46 = .ok (.if_icmp .ne 12, 3) := by decide +kernel
theorem dX4_figure_49 : decode cX4_figure 49 = .ok (.aload_n 0, 1) := by decide +kernel
theorem dX4_figure_50 : decode cX4_figure 50 = .ok (.ldc 123, 2) := by decide +kernel
theorem dX4_figure_52 : decode cX4_figure 52 = .ok (.invokevirtual 63, 3) := by decide +kernel
theorem dX4_figure_55 : decode cX4_figure 55 = .ok (.goto 10, 3) := by decide +kernel
theorem dX4_figure_58 : decode cX4_figure 58 = .ok (.aload_n 0, 1) := by decide +kernel
theorem dX4_figure_59 : decode cX4_figure 59 = .ok (.iload_n 1, 1) := by decide +kernel
theorem dX4_figure_60 : decode cX4_figure 60 = .ok (.iload_n 2, 1) := by decide +kernel
theorem dX4_figure_61 : decode cX4_figure 61 = .ok (.iload_n 3, 1) := by decide +kernel
theorem dX4_figure_62 : decode cX4_figure 62 = .ok (.invokevirtual 124, 3) := by decide +kernel
theorem dX4_figure_65 : decode cX4_figure 65 = .ok (.ireturn, 1) := by decide +kernel
theorem dX4_of_0 : decode cX4_of 0 = .ok (.aload_n 0, 1) := by decide +kernel
theorem dX4_of_1 : decode cX4_of 1 = .ok (.iload_n 1, 1) := by decide +kernel
theorem dX4_of_2 : decode cX4_of 2 = .ok (.invokevirtual 128, 3) := by decide +kernel
theorem dX4_of_5 : decode cX4_of 5 = .ok (.ifCond .eq 15, 3) := by decide +kernel
theorem dX4_of_8 : decode cX4_of 8 = .ok (.iload_n 2, 1) := by decide +kernel
theorem dX4_of_9 : decode cX4_of 9 = .ok (.i2l, 1) := by decide +kernel
theorem dX4_of_10 : decode cX4_of 10 = .ok (.lconst 0, 1) := by decide +kernel
theorem dX4_of_11 : decode cX4_of 11 = .ok (.ldc2_w 131, 3) := by decide +kernel
theorem dX4_of_14 : decode cX4_of 14 = .ok (.invokestatic 49, 3) := by decide +kernel
theorem dX4_of_17 : decode cX4_of 17 = .ok (.ifCond .ne 10, 3) := by decide +kernel
theorem dX4_of_20 : decode cX4_of 20 = .ok (.aload_n 0, 1) := by decide +kernel
theorem dX4_of_21 : decode cX4_of 21 = .ok (.ldc 44, 2) := by decide +kernel
theorem dX4_of_23 : decode cX4_of 23 = .ok (.invokevirtual 63, 3) := by decide +kernel
theorem dX4_of_26 : decode cX4_of 26 = .ok (.ireturn, 1) := by decide +kernel
theorem dX4_of_27 : decode cX4_of 27 = .ok (.iload_n 2, 1) := by decide +kernel
theorem dX4_of_28 : decode cX4_of 28 = .ok (.tableswitch 62 9 11 #[28, 34, 48], 28) := by decide +kernel
theorem dX4_of_56 : decode cX4_of 56 = .ok (.aload_n 0, 1) := by decide +kernel
theorem dX4_of_57 : decode cX4_of 57 = .ok (.iload_n 1, 1) := by decide +kernel
theorem dX4_of_58 : decode cX4_of 58 = .ok (.invokevirtual 133, 3) := by decide +kernel
theorem dX4_of_61 : decode cX4_of 61 = .ok (.ireturn, 1) := by decide +kernel
theorem dX4_of_62 : decode cX4_of 62 = .ok (.aload_n 0, 1) := by decide +kernel
theorem dX4_of_63 : decode cX4_of 63 = .ok (.iload_n 1, 1) := by decide +kernel
theorem dX4_of_64 : decode cX4_of 64 = .ok (.invokevirtual 98, 3) := by decide +kernel
theorem dX4_of_67 : decode cX4_of 67 = .ok (.ifCond .eq 7, 3) := by decide +kernel
theorem dX4_of_70 : decode cX4_of 70 = .ok (.iconst 1, 1) := by decide +kernel
theorem dX4_of_71 : decode cX4_of 71 = .ok (.goto 4, 3) := by decide +kernel
theorem dX4_of_74 : decode cX4_of 74 = .ok (.iconst 0, 1) := by decide +kernel
theorem dX4_of_75 : decode cX4_of 75 = .ok (.ireturn, 1) := by decide +kernel
theorem dX4_of_76 : decode cX4_of 76 = .ok (.aload_n 0, 1) := by decide +kernel
theorem dX4_of_77 : decode cX4_of 77 = .ok (.iload_n 1, 1) := by decide +kernel
theorem dX4_of_78 : decode cX4_of 78 = .ok (.invokevirtual 82, 3) := by decide +kernel
theorem dX4_of_81 : decode cX4_of 81 = .ok (.ifCond .eq 7, 3) := by decide +kernel
theorem dX4_of_84 : decode cX4_of 84 = .ok (.iconst 1, 1) := by decide +kernel
theorem dX4_of_85 : decode cX4_of 85 = .ok (.goto 4, 3) := by decide +kernel
theorem dX4_of_88 : decode cX4_of 88 = .ok (.iconst 0, 1) := by decide +kernel
theorem dX4_of_89 : decode cX4_of 89 = .ok (.ireturn, 1) := by decide +kernel
theorem dX4_of_90 : decode cX4_of 90 = .ok (.aload_n 0, 1) := by decide +kernel
theorem dX4_of_91 : decode cX4_of 91 = .ok (.iload_n 1, 1) := by decide +kernel
theorem dX4_of_92 : decode cX4_of 92 = .ok (.iload_n 2, 1) := by decide +kernel
theorem dX4_of_93 : decode cX4_of 93 = .ok (.invokevirtual 55, 3) := by decide +kernel
theorem dX4_of_96 : decode cX4_of 96 = .ok (.ireturn, 1) := by decide +kernel
theorem dX4_isSet_0 : decode cX4_isSet 0 = .ok (.iload_n 1, 1) := by decide +kernel
theorem dX4_isSet_1 : decode cX4_isSet 1 = .ok (.tableswitch 110 1 7 #[43, 53, 63, 73, 81, 91, 73], 43) := by decide +kernel
theorem dX4_isSet_44 : decode cX4_isSet 44 = .ok (.iload_n 2, 1) := by decide +kernel
theorem dX4_isSet_45 : decode cX4_isSet 45 = .ok (.i2l, 1) := by decide +kernel
theorem dX4_isSet_46 : decode cX4_isSet 46 = .ok (.lconst 0, 1) := by decide +kernel
theorem dX4_isSet_47 : decode cX4_isSet 47 = .ok (.ldc2_w 116, 3) := by decide +kernel
theorem dX4_isSet_50 : decode cX4_isSet 50 = .ok (.invokestatic 49, 3) := by decide +kernel
theorem dX4_isSet_53 : decode cX4_isSet 53 = .ok (.ireturn, 1) := by decide +kernel
theorem dX4_isSet_54 : decode cX4_isSet 54 = .ok (.iload_n 2, 1) := by decide +kernel
theorem dX4_isSet_55 : decode cX4_isSet 55 = .ok (.i2l, 1) := by decide +kernel
theorem dX4_isSet_56 : decode cX4_isSet 56 = .ok (.lconst 0, 1) := by decide +kernel
theorem dX4_isSet_57 : decode cX4_isSet 57 = .ok (.ldc2_w 121, 3) := by decide +kernel
theorem dX4_isSet_60 : decode cX4_isSet 60 = .ok (.invokestatic 49, 3) := by decide +kernel
theorem dX4_isSet_63 : decode cX4_isSet 63 = .ok (.ireturn, 1) := by decide +kernel
theorem dX4_isSet_64 : decode cX4_isSet 64 = .ok (.iload_n 2, 1) := by decide +kernel
theorem dX4_isSet_65 : decode cX4_isSet 65 = .ok (.i2l, 1) := by decide +kernel
theorem dX4_isSet_66 : decode cX4_isSet 66 = .ok (.lconst 0, 1) := by decide +kernel
theorem dX4_isSet_67 : decode cX4_isSet 67 = .ok (.ldc2_w 136, 3) := by decide +kernel
theorem dX4_isSet_70 : decode cX4_isSet 70 = .ok (.invokestatic 49, 3) := by decide +kernel
theorem dX4_isSet_73 : decode cX4_isSet 73 = .ok (.ireturn, 1) := by decide +kernel
theorem dX4_isSet_74 : decode cX4_isSet 74 = .ok (.iload_n 2, 1) := by decide +kernel
theorem dX4_isSet_75 : decode cX4_isSet 75 = .ok (.i2l, 1) := by decide +kernel
theorem dX4_isSet_76 : decode cX4_isSet 76 = .ok (.lconst 0, 1) := by decide +kernel
theorem dX4_isSet_77 : decode cX4_isSet 77 = .ok (.lconst 1, 1) := by decide +kernel
theorem dX4_isSet_78 : decode cX4_isSet 78 = .ok (.invokestatic 49, 3) := by decide +kernel
theorem dX4_isSet_81 : decode cX4_isSet 81 = .ok (.ireturn, 1) := by decide +kernel
theorem dX4_isSet_82 : decode cX4_isSet 82 = .ok (.iload_n 2, 1) := by decide +kernel
theorem dX4_isSet_83 : decode cX4_isSet 83 = .ok (.i2l, 1) := by decide +kernel
theorem dX4_isSet_84 : decode cX4_isSet 84 = .ok (.lconst 0, 1) := by decide +kernel
theorem dX4_isSet_85 : decode cX4_isSet 85 = .ok (.ldc2_w 138, 3) := by decide +kernel
theorem dX4_isSet_88 : decode cX4_isSet 88 = .ok (.invokestatic 49, 3) := by decide +kernel
theorem dX4_isSet_91 : decode cX4_isSet 91 = .ok (.ireturn, 1) := by decide +kernel
theorem dX4_isSet_92 : decode cX4_isSet 92 = .ok (.iload_n 2, 1) := by decide +kernel
theorem dX4_isSet_93 : decode cX4_isSet 93 = .ok (.iconst (-1), 1) := by decide +kernel
theorem dX4_isSet_94 : decode cX4_isSet 94 = .ok (.if_icmp .eq 11, 3) := by decide +kernel
theorem dX4_isSet_97 : decode cX4_isSet 97 = .ok (.aload_n 0, 1) := by decide +kernel
theorem dX4_isSet_98 : decode cX4_isSet 98 = .ok (.iload_n 2, 1) := by decide +kernel
theorem dX4_isSet_99 : decode cX4_isSet 99 = .ok (.invokevirtual 128, 3) := by decide +kernel
theorem dX4_isSet_102 : decode cX4_isSet 102 = .ok (.ifCond .eq 7, 3) := by decide +kernel
theorem dX4_isSet_105 : decode cX4_isSet 105 = .ok (.iconst 1, 1) := by decide +kernel
theorem dX4_isSet_106 : decode cX4_isSet 106 = .ok (.goto 4, 3) := by decide +kernel
theorem dX4_isSet_109 : decode cX4_isSet 109 = .ok (.iconst 0, 1) := by decide +kernel
theorem dX4_isSet_110 : decode cX4_isSet 110 = .ok (.ireturn, 1) := by decide +kernel
theorem dX4_isSet_111 : decode cX4_isSet 111 = .ok (.iload_n 1, 1) := by decide +kernel
theorem dX4_isSet_112 : decode cX4_isSet 112 = .ok (.bipush 8, 2) := by decide +kernel
theorem dX4_isSet_114 : decode cX4_isSet 114 = .ok (.if_icmp .ne 19, 3) := by decide +kernel
theorem dX4_isSet_117 : decode cX4_isSet 117 = .ok (.iload_n 2, 1) := by decide +kernel
theorem dX4_isSet_118 : decode cX4_isSet 118 = .ok (.i2l, 1) := by decide +kernel
theorem dX4_isSet_119 : decode cX4_isSet 119 = .ok (.lconst 0, 1) := by decide +kernel
theorem dX4_isSet_120 : decode cX4_isSet 120 = .ok (.ldc2_w 140, 3) := by decide +kernel
theorem dX4_isSet_123 : decode cX4_isSet 123 = .ok (.invokestatic 49, 3) := by decide +kernel
theorem dX4_isSet_126 : decode cX4_isSet 126 = .ok (.ifCond .eq 7, 3) := by decide +kernel
theorem dX4_isSet_129 : decode cX4_isSet 129 = .ok (.iconst 1, 1) := by decide +kernel
theorem dX4_isSet_130 : decode cX4_isSet 130 = .ok (.goto 4, 3) := by decide +kernel
theorem dX4_isSet_133 : decode cX4_isSet 133 = .ok (.iconst 0, 1) := by decide +kernel
theorem dX4_isSet_134 : decode cX4_isSet 134 = .ok (.ireturn, 1) := by decide +kernel
theorem dX4_set_0 : decode cX4_set 0 = .ok (.aload_n 0, 1) := by decide +kernel
theorem dX4_set_1 : decode cX4_set 1 = .ok (.iload_n 1, 1) := by decide +kernel
theorem dX4_set_2 : decode cX4_set 2 = .ok (.invokevirtual 128, 3) := by decide +kernel
theorem dX4_set_5 : decode cX4_set 5 = .ok (.ifCond .eq 25, 3) := by decide +kernel
theorem dX4_set_8 : decode cX4_set 8 = .ok (.aload_n 0, 1) := by decide +kernel
theorem dX4_set_9 : decode cX4_set 9 = .ok (.iload_n 2, 1) := by decide +kernel
theorem dX4_set_10 : decode cX4_set 10 = .ok (.iload_n 3, 1) := by decide +kernel
theorem dX4_set_11 : decode cX4_set 11 = .ok (.invokevirtual 142, 3) := by decide +kernel
theorem dX4_set_14 : decode cX4_set 14 = .ok (.ifCond .eq 16, 3) := by decide +kernel
theorem dX4_set_17 : decode cX4_set 17 = .ok (.aload_n 0, 1) := by decide +kernel
theorem dX4_set_18 : decode cX4_set 18 = .ok (.iload_n 1, 1) := by decide +kernel
theorem dX4_set_19 : decode cX4_set 19 = .ok (.iload_n 2, 1) := by decide +kernel
theorem dX4_set_20 : decode cX4_set 20 = .ok (.invokestatic 45, 3) := by decide +kernel
theorem dX4_set_23 : decode cX4_set 23 = .ok (.iload_n 3, 1) := by decide +kernel
theorem dX4_set_24 : decode cX4_set 24 = .ok (.invokevirtual 60, 3) := by decide +kernel
theorem dX4_set_27 : decode cX4_set 27 = .ok (.goto 9, 3) := by decide +kernel
theorem dX4_set_30 : decode cX4_set 30 = .ok (.aload_n 0, 1) := by decide +kernel
theorem dX4_set_31 : decode cX4_set 31 = .ok (.ldc 44, 2) := by decide +kernel
theorem dX4_set_33 : decode cX4_set 33 = .ok (.invokevirtual 63, 3) := by decide +kernel
theorem dX4_set_36 : decode cX4_set 36 = .ok (.ireturn, 1) := by decide +kernel
theorem dX4_seen_0 : decode cX4_seen 0 = .ok (.aload_n 0, 1) := by decide +kernel
theorem dX4_seen_1 : decode cX4_seen 1 = .ok (.iload_n 1, 1) := by decide +kernel
theorem dX4_seen_2 : decode cX4_seen 2 = .ok (.invokevirtual 128, 3) := by decide +kernel
theorem dX4_seen_5 : decode cX4_seen 5 = .ok (.ifCond .eq 11, 3) := by decide +kernel
theorem dX4_seen_8 : decode cX4_seen 8 = .ok (.aload_n 0, 1) := by decide +kernel
theorem dX4_seen_9 : decode cX4_seen 9 = .ok (.iload_n 1, 1) := by decide +kernel
theorem dX4_seen_10 : decode cX4_seen 10 = .ok (.invokevirtual 92, 3) := by decide +kernel
theorem dX4_seen_13 : decode cX4_seen 13 = .ok (.goto 9, 3) := by decide +kernel
theorem dX4_seen_16 : decode cX4_seen 16 = .ok (.aload_n 0, 1) := by decide +kernel
theorem dX4_seen_17 : decode cX4_seen 17 = .ok (.ldc 44, 2) := by decide +kernel
theorem dX4_seen_19 : decode cX4_seen 19 = .ok (.invokevirtual 63, 3) := by decide +kernel
theorem dX4_seen_22 : decode cX4_seen 22 = .ok (.ireturn, 1) := by decide +kernel
theorem dX4_turn_0 : decode cX4_turn 0 = .ok (.aload_n 0, 1) := by decide +kernel
theorem dX4_turn_1 : decode cX4_turn 1 = .ok (.iload_n 1, 1) := by decide +kernel
theorem dX4_turn_2 : decode cX4_turn 2 = .ok (.invokevirtual 128, 3) := by decide +kernel
theorem dX4_turn_5 : decode cX4_turn 5 = .ok (.ifCond .eq 23, 3) := by decide +kernel
theorem dX4_turn_8 : decode cX4_turn 8 = .ok (.iload_n 2, 1) := by decide +kernel
theorem dX4_turn_9 : decode cX4_turn 9 = .ok (.invokestatic 118, 3) := by decide +kernel
theorem dX4_turn_12 : decode cX4_turn 12 = .ok (.ifCond .eq 16, 3) := by decide +kernel
theorem dX4_turn_15 : decode cX4_turn 15 = .ok (.aload_n 0, 1) := by decide +kernel
theorem dX4_turn_16 : decode cX4_turn 16 = .ok (.iload_n 1, 1) := by decide +kernel
theorem dX4_turn_17 : decode cX4_turn 17 = .ok (.iconst 0, 1) := by decide +kernel
theorem dX4_turn_18 : decode cX4_turn 18 = .ok (.invokestatic 45, 3) := by decide +kernel
theorem dX4_turn_21 : decode cX4_turn 21 = .ok (.iload_n 2, 1) := by decide +kernel
theorem dX4_turn_22 : decode cX4_turn 22 = .ok (.invokevirtual 60, 3) := by decide +kernel
theorem dX4_turn_25 : decode cX4_turn 25 = .ok (.goto 9, 3) := by decide +kernel
theorem dX4_turn_28 : decode cX4_turn 28 = .ok (.aload_n 0, 1) := by decide +kernel
theorem dX4_turn_29 : decode cX4_turn 29 = .ok (.ldc 44, 2) := by decide +kernel
theorem dX4_turn_31 : decode cX4_turn 31 = .ok (.invokevirtual 63, 3) := by decide +kernel
theorem dX4_turn_34 : decode cX4_turn 34 = .ok (.ireturn, 1) := by decide +kernel
theorem dX4_isUnder_0 : decode cX4_isUnder 0 = .ok (.iload_n 1, 1) := by decide +kernel
theorem dX4_isUnder_1 : decode cX4_isUnder 1 = .ok (.ifCond .eq 28, 3) := by decide +kernel
theorem dX4_isUnder_4 : decode cX4_isUnder 4 = .ok (.iload_n 0, 1) := by decide +kernel
theorem dX4_isUnder_5 : decode cX4_isUnder 5 = .ok (.iload_n 1, 1) := by decide +kernel
theorem dX4_isUnder_6 : decode cX4_isUnder 6 = .ok (.if_icmp .eq 23, 3) := by decide +kernel
theorem dX4_isUnder_9 : decode cX4_isUnder 9 = .ok (.iload_n 0, 1) := by decide +kernel
theorem dX4_isUnder_10 : decode cX4_isUnder 10 = .ok (.iconst 4, 1) := by decide +kernel
theorem dX4_isUnder_11 : decode cX4_isUnder 11 = .ok (.if_icmp .ne 8, 3) := by decide +kernel
theorem dX4_isUnder_14 : decode cX4_isUnder 14 = .ok (.iload_n 1, 1) := by decide +kernel
theorem dX4_isUnder_15 : decode cX4_isUnder 15 = .ok (.iconst 1, 1) := by decide +kernel
theorem dX4_isUnder_16 : decode cX4_isUnder 16 = .ok (.if_icmp .eq 13, 3) := by decide +kernel
theorem dX4_isUnder_19 : decode cX4_isUnder 19 = .ok (.iload_n 0, 1) := by decide +kernel
theorem dX4_isUnder_20 : decode cX4_isUnder 20 = .ok (.iconst 5, 1) := by decide +kernel
theorem dX4_isUnder_21 : decode cX4_isUnder 21 = .ok (.if_icmp .ne 12, 3) := by decide +kernel
theorem dX4_isUnder_24 : decode cX4_isUnder 24 = .ok (.iload_n 1, 1) := by decide +kernel
theorem dX4_isUnder_25 : decode cX4_isUnder 25 = .ok (.iconst 2, 1) := by decide +kernel
theorem dX4_isUnder_26 : decode cX4_isUnder 26 = .ok (.if_icmp .ne 7, 3) := by decide +kernel
theorem dX4_isUnder_29 : decode cX4_isUnder 29 = .ok (.iconst 1, 1) := by decide +kernel
theorem dX4_isUnder_30 : decode cX4_isUnder 30 = .ok (.goto 4, 3) := by decide +kernel
theorem dX4_isUnder_33 : decode cX4_isUnder 33 = .ok (.iconst 0, 1) := by decide +kernel
theorem dX4_isUnder_34 : decode cX4_isUnder 34 = .ok (.ireturn, 1) := by decide +kernel
theorem dX4_as_0 : decode cX4_as 0 = .ok (.aload_n 0, 1) := by decide +kernel
theorem dX4_as_1 : decode cX4_as 1 = .ok (.iload_n 1, 1) := by decide +kernel
theorem dX4_as_2 : decode cX4_as 2 = .ok (.invokevirtual 128, 3) := by decide +kernel
theorem dX4_as_5 : decode cX4_as 5 = .ok (.ifCond .eq 10, 3) := by decide +kernel
theorem dX4_as_8 : decode cX4_as 8 = .ok (.iload_n 2, 1) := by decide +kernel
theorem dX4_as_9 : decode cX4_as 9 = .ok (.invokestatic 118, 3) := by decide +kernel
theorem dX4_as_12 : decode cX4_as 12 = .ok (.ifCond .ne 10, 3) := by decide +kernel
theorem dX4_as_15 : decode cX4_as 15 = .ok (.aload_n 0, 1) := by decide +kernel
theorem dX4_as_16 : decode cX4_as 16 = .ok (.ldc 44, 2) := by decide +kernel
theorem dX4_as_18 : decode cX4_as 18 = .ok (.invokevirtual 63, 3) := by decide +kernel
theorem dX4_as_21 : decode cX4_as 21 = .ok (.ireturn, 1) := by decide +kernel
theorem dX4_as_22 : decode cX4_as 22 = .ok (.aload_n 0, 1) := by decide +kernel
theorem dX4_as_23 : decode cX4_as 23 = .ok (.iload_n 1, 1) := by decide +kernel
theorem dX4_as_24 : decode cX4_as 24 = .ok (.iconst 0, 1) := by decide +kernel
theorem dX4_as_25 : decode cX4_as 25 = .ok (.invokevirtual 55, 3) := by decide +kernel
theorem dX4_as_28 : decode cX4_as 28 = .ok (.iload_n 2, 1) := by decide +kernel
theorem dX4_as_29 : decode cX4_as 29 = .ok (.invokestatic 145, 3) := by decide +kernel
theorem dX4_as_32 : decode cX4_as 32 = .ok (.ifCond .eq 12, 3) := by decide +kernel
theorem dX4_as_35 : decode cX4_as 35 = .ok (.aload_n 0, 1) := by decide +kernel
theorem dX4_as_36 : decode cX4_as 36 = .ok (.iload_n 1, 1) := by decide +kernel
theorem dX4_as_37 : decode cX4_as 37 = .ok (.iconst 3, 1) := by decide +kernel
theorem dX4_as_38 : decode cX4_as 38 = .ok (.invokevirtual 55, 3) := by decide +kernel
theorem dX4_as_41 : decode cX4_as 41 = .ok (.goto 9, 3) := by decide +kernel
theorem dX4_as_44 : decode cX4_as 44 = .ok (.aload_n 0, 1) := by decide +kernel
theorem dX4_as_45 : decode cX4_as 45 = .ok (.ldc 148, 2) := by decide +kernel
theorem dX4_as_47 : decode cX4_as 47 = .ok (.invokevirtual 63, 3) := by decide +kernel
theorem dX4_as_50 : decode cX4_as 50 = .ok (.ireturn, 1) := by decide +kernel
theorem dX4_columnBy_0 : decode cX4_columnBy 0 = .ok (.aload_n 0, 1) := by decide +kernel
theorem dX4_columnBy_1 : decode cX4_columnBy 1 = .ok (.iload_n 1, 1) := by decide +kernel
theorem dX4_columnBy_2 : decode cX4_columnBy 2 = .ok (.iconst 2, 1) := by decide +kernel
theorem dX4_columnBy_3 : decode cX4_columnBy 3 = .ok (.invokevirtual 55, 3) := by decide +kernel
theorem dX4_columnBy_6 : decode cX4_columnBy 6 = .ok (.istore_n 3, 1) := by decide +kernel
theorem dX4_columnBy_7 : decode cX4_columnBy 7 = .ok (.aload_n 0, 1) := by decide +kernel
theorem dX4_columnBy_8 : decode cX4_columnBy 8 = .ok (.getfield 7, 3) := by decide +kernel
theorem dX4_columnBy_11 : decode cX4_columnBy 11 = .ok (.aload_n 0, 1) := by decide +kernel
theorem dX4_columnBy_12 : decode cX4_columnBy 12 = .ok (.iload_n 1, 1) := by decide +kernel
theorem dX4_columnBy_13 : decode cX4_columnBy 13 = .ok (.bipush 6, 2) := by decide +kernel
theorem dX4_columnBy_15 : decode cX4_columnBy 15 = .ok (.invokevirtual 55, 3) := by decide +kernel
theorem dX4_columnBy_18 : decode cX4_columnBy 18 = .ok (.iconst 2, 1) := by decide +kernel
theorem dX4_columnBy_19 : decode cX4_columnBy 19 = .ok (.invokestatic 45, 3) := by decide +kernel
theorem dX4_columnBy_22 : decode cX4_columnBy 22 = .ok (.iaload, 1) := by decide +kernel
theorem dX4_columnBy_23 : decode cX4_columnBy 23 = .ok (.istore 4, 2) := by decide +kernel
theorem dX4_columnBy_25 : decode cX4_columnBy 25 = .ok (.aload_n 0, 1) := by decide +kernel
theorem dX4_columnBy_26 : decode cX4_columnBy 26 = .ok (.iload_n 1, 1) := by decide +kernel
theorem dX4_columnBy_27 : decode cX4_columnBy 27 = .ok (.iconst 5, 1) := by decide +kernel
theorem dX4_columnBy_28 : decode cX4_columnBy 28 = .ok (.invokevirtual 55, 3) := by decide +kernel
theorem dX4_columnBy_31 : decode cX4_columnBy 31 = .ok (.iconst 2, 1) := by decide +kernel
theorem dX4_columnBy_32 : decode cX4_columnBy 32 = .ok (.if_icmp .ne 25, 3) := by decide +kernel
theorem dX4_columnBy_35 : decode cX4_columnBy 35 = .ok (.iload_n 3, 1) := by decide +kernel
theorem dX4_columnBy_36 : decode cX4_columnBy 36 = .ok (.iload 4, 2) := by decide +kernel
theorem dX4_columnBy_38 : decode cX4_columnBy 38 = .ok (.if_icmp .gt 9, 3) := by decide +kernel
theorem dX4_columnBy_41 : decode cX4_columnBy 41 = .ok (.iload_n 3, 1) := by decide +kernel
theorem dX4_columnBy_42 : decode cX4_columnBy 42 = .ok (.iload_n 2, 1) := by decide +kernel
theorem dX4_columnBy_43 : decode cX4_columnBy 43 = .ok (.isub, 1) := by decide +kernel
theorem dX4_columnBy_44 : decode cX4_columnBy 44 = .ok (.goto 6, 3) := by decide +kernel
theorem dX4_columnBy_47 : decode cX4_columnBy 47 = .ok (.iload_n 3, 1) := by decide +kernel
theorem dX4_columnBy_48 : decode cX4_columnBy 48 = .ok (.iload_n 2, 1) := by decide +kernel
theorem dX4_columnBy_49 : decode cX4_columnBy 49 = .ok (.iadd, 1) := by decide +kernel
theorem dX4_columnBy_50 : decode cX4_columnBy 50 = .ok (.iconst 0, 1) := by decide +kernel
theorem dX4_columnBy_51 : decode cX4_columnBy 51 = .ok (.bipush 19, 2) := by decide +kernel
theorem dX4_columnBy_53 : decode cX4_columnBy 53 = .ok (.invokestatic 149, 3) := by decide +kernel
theorem dX4_columnBy_56 : decode cX4_columnBy 56 = .ok (.ireturn, 1) := by decide +kernel
theorem dX4_columnBy_57 : decode cX4_columnBy 57 = .ok (.aload_n 0, 1) := by decide +kernel
theorem dX4_columnBy_58 : decode cX4_columnBy 58 = .ok (.iload_n 1, 1) := by decide +kernel
theorem dX4_columnBy_59 : decode cX4_columnBy 59 = .ok (.aload_n 0, 1) := by decide +kernel
theorem dX4_columnBy_60 : decode cX4_columnBy 60 = .ok (.iload_n 1, 1) := by decide +kernel
theorem dX4_columnBy_61 : decode cX4_columnBy 61 = .ok (.bipush 6, 2) := by decide +kernel
theorem dX4_columnBy_63 : decode cX4_columnBy 63 = .ok (.invokevirtual 55, 3) := by decide +kernel
theorem dX4_columnBy_66 : decode cX4_columnBy 66 = .ok (.invokevirtual 79, 3) := by decide +kernel
theorem dX4_columnBy_69 : decode cX4_columnBy 69 = .ok (.iconst 1, 1) := by decide +kernel
theorem dX4_columnBy_70 : decode cX4_columnBy 70 = .ok (.isub, 1) := by decide +kernel
theorem dX4_columnBy_71 : decode cX4_columnBy 71 = .ok (.istore 5, 2) := by decide +kernel
theorem dX4_columnBy_73 : decode cX4_columnBy 73 = .ok (.iload_n 2, 1) := by decide +kernel
theorem dX4_columnBy_74 : decode cX4_columnBy 74 = .ok (.iload 5, 2) := by decide +kernel
theorem dX4_columnBy_76 : decode cX4_columnBy 76 = .ok (.if_icmp .ge 7, 3) := by decide +kernel
theorem dX4_columnBy_79 : decode cX4_columnBy 79 = .ok (.iload_n 2, 1) := by decide +kernel
theorem dX4_columnBy_80 : decode cX4_columnBy 80 = .ok (.goto 5, 3) := by decide +kernel
theorem dX4_columnBy_83 : decode cX4_columnBy 83 = .ok (.iload 5, 2) := by decide +kernel
theorem dX4_columnBy_85 : decode cX4_columnBy 85 = .ok (.istore 6, 2) := by decide +kernel
theorem dX4_columnBy_87 : decode cX4_columnBy 87 = .ok (.iload_n 3, 1) := by decide +kernel
theorem dX4_columnBy_88 : decode cX4_columnBy 88 = .ok (.iload 4, 2) := by decide +kernel
theorem dX4_columnBy_90 : decode cX4_columnBy 90 = .ok (.if_icmp .ge 10, 3) := by decide +kernel
theorem dX4_columnBy_93 : decode cX4_columnBy 93 = .ok (.iload_n 3, 1) := by decide +kernel
theorem dX4_columnBy_94 : decode cX4_columnBy 94 = .ok (.iload 6, 2) := by decide +kernel
theorem dX4_columnBy_96 : decode cX4_columnBy 96 = .ok (.iadd, 1) := by decide +kernel
theorem dX4_columnBy_97 : decode cX4_columnBy 97 = .ok (.goto 7, 3) := by decide +kernel
theorem dX4_columnBy_100 : decode cX4_columnBy 100 = .ok (.iload_n 3, 1) := by decide +kernel
theorem dX4_columnBy_101 : decode cX4_columnBy 101 = .ok (.iload 6, 2) := by decide +kernel
theorem dX4_columnBy_103 : decode cX4_columnBy 103 = .ok (.isub, 1) := by decide +kernel
theorem dX4_columnBy_104 : decode cX4_columnBy 104 = .ok (.ireturn, 1) := by decide +kernel
theorem dX4_works_0 : decode cX4_works 0 = .ok (.aload_n 0, 1) := by decide +kernel
theorem dX4_works_1 : decode cX4_works 1 = .ok (.iload_n 1, 1) := by decide +kernel
theorem dX4_works_2 : decode cX4_works 2 = .ok (.invokevirtual 133, 3) := by decide +kernel
theorem dX4_works_5 : decode cX4_works 5 = .ok (.istore_n 2, 1) := by decide +kernel
theorem dX4_works_6 : decode cX4_works 6 = .ok (.aload_n 0, 1) := by decide +kernel
theorem dX4_works_7 : decode cX4_works 7 = .ok (.iload_n 1, 1) := by decide +kernel
theorem dX4_works_8 : decode cX4_works 8 = .ok (.iconst 5, 1) := by decide +kernel
theorem dX4_works_9 : decode cX4_works 9 = .ok (.invokevirtual 55, 3) := by decide +kernel
theorem dX4_works_12 : decode cX4_works 12 = .ok (.ifCond .ne 7, 3) := by decide +kernel
theorem dX4_works_15 : decode cX4_works 15 = .ok (.iconst 3, 1) := by decide +kernel
theorem dX4_works_16 : decode cX4_works 16 = .ok (.goto 18, 3) := by decide +kernel
theorem dX4_works_19 : decode cX4_works 19 = .ok (.aload_n 0, 1) := by decide +kernel
theorem dX4_works_20 : decode cX4_works 20 = .ok (.iload_n 1, 1) := by decide +kernel
theorem dX4_works_21 : decode cX4_works 21 = .ok (.iconst 5, 1) := by decide +kernel
theorem dX4_works_22 : decode cX4_works 22 = .ok (.invokevirtual 55, 3) := by decide +kernel
theorem dX4_works_25 : decode cX4_works 25 = .ok (.iconst 2, 1) := by decide +kernel
theorem dX4_works_26 : decode cX4_works 26 = .ok (.if_icmp .gt 7, 3) := by decide +kernel
theorem dX4_works_29 : decode cX4_works 29 = .ok (.iconst 2, 1) := by decide +kernel
theorem dX4_works_30 : decode cX4_works 30 = .ok (.goto 4, 3) := by decide +kernel
theorem dX4_works_33 : decode cX4_works 33 = .ok (.iconst 4, 1) := by decide +kernel
theorem dX4_works_34 : decode cX4_works 34 = .ok (.istore_n 3, 1) := by decide +kernel
theorem dX4_works_35 : decode cX4_works 35 = .ok (.aload_n 0, 1) := by decide +kernel
theorem dX4_works_36 : decode cX4_works 36 = .ok (.iload_n 1, 1) := by decide +kernel
theorem dX4_works_37 : decode cX4_works 37 = .ok (.iload_n 3, 1) := by decide +kernel
theorem dX4_works_38 : decode cX4_works 38 = .ok (.invokevirtual 55, 3) := by decide +kernel
theorem dX4_works_41 : decode cX4_works 41 = .ok (.istore 4, 2) := by decide +kernel
theorem dX4_works_43 : decode cX4_works 43 = .ok (.iload_n 3, 1) := by decide +kernel
theorem dX4_works_44 : decode cX4_works 44 = .ok (.iconst 3, 1) := by decide +kernel
theorem dX4_works_45 : decode cX4_works 45 = .ok (.if_icmp .ne 16, 3) := by decide +kernel
theorem dX4_works_48 : decode cX4_works 48 = .ok (.iload 4, 2) := by decide +kernel
theorem dX4_works_50 : decode cX4_works 50 = .ok (.iload_n 2, 1) := by decide +kernel
theorem dX4_works_51 : decode cX4_works 51 = .ok (.isub, 1) := by decide +kernel
theorem dX4_works_52 : decode cX4_works 52 = .ok (.iconst 0, 1) := by decide +kernel
theorem dX4_works_53 : decode cX4_works 53 = .ok (.bipush 99, 2) := by decide +kernel
theorem dX4_works_55 : decode cX4_works 55 = .ok (.invokestatic 149, 3) := by decide +kernel
theorem dX4_works_58 : decode cX4_works 58 = .ok (.goto 21, 3) := by decide +kernel
theorem dX4_works_61 : decode cX4_works 61 = .ok (.iload_n 3, 1) := by decide +kernel
theorem dX4_works_62 : decode cX4_works 62 = .ok (.iconst 2, 1) := by decide +kernel
theorem dX4_works_63 : decode cX4_works 63 = .ok (.if_icmp .ne 12, 3) := by decide +kernel
theorem dX4_works_66 : decode cX4_works 66 = .ok (.aload_n 0, 1) := by decide +kernel
theorem dX4_works_67 : decode cX4_works 67 = .ok (.iload_n 1, 1) := by decide +kernel
theorem dX4_works_68 : decode cX4_works 68 = .ok (.iload_n 2, 1) := by decide +kernel
theorem dX4_works_69 : decode cX4_works 69 = .ok (.invokevirtual 152, 3) := by decide +kernel
theorem dX4_works_72 : decode cX4_works 72 = .ok (.goto 7, 3) := by decide +kernel
theorem dX4_works_75 : decode cX4_works 75 = .ok (.iconst 1, 1) := by decide +kernel
theorem dX4_works_76 : decode cX4_works 76 = .ok (.iload 4, 2) := by decide +kernel
theorem dX4_works_78 : decode cX4_works 78 = .ok (.isub, 1) := by decide +kernel
theorem dX4_works_79 : decode cX4_works 79 = .ok (.istore 5, 2) := by decide +kernel
theorem dX4_works_81 : decode cX4_works 81 = .ok (.iload_n 2, 1) := by decide +kernel
theorem dX4_works_82 : decode cX4_works 82 = .ok (.ifCond .le 49, 3) := by decide +kernel
theorem dX4_works_85 : decode cX4_works 85 = .ok (.iload 5, 2) := by decide +kernel
theorem dX4_works_87 : decode cX4_works 87 = .ok (.iload 4, 2) := by decide +kernel
theorem dX4_works_89 : decode cX4_works 89 = .ok (.if_icmp .eq 42, 3) := by decide +kernel
theorem dX4_works_92 : decode cX4_works 92 = .ok (.aload_n 0, 1) := by decide +kernel
theorem dX4_works_93 : decode cX4_works 93 = .ok (.getfield 7, 3) := by decide +kernel
theorem dX4_works_96 : decode cX4_works 96 = .ok (.iload_n 1, 1) := by decide +kernel
theorem dX4_works_97 : decode cX4_works 97 = .ok (.iload_n 3, 1) := by decide +kernel
theorem dX4_works_98 : decode cX4_works 98 = .ok (.invokestatic 45, 3) := by decide +kernel
theorem dX4_works_101 : decode cX4_works 101 = .ok (.iload 5, 2) := by decide +kernel
theorem dX4_works_103 : decode cX4_works 103 = .ok (.iastore, 1) := by decide +kernel
theorem dX4_works_104 : decode cX4_works 104 = .ok (.aload_n 0, 1) := by decide +kernel
theorem dX4_works_105 : decode cX4_works 105 = .ok (.getfield 7, 3) := by decide +kernel
theorem dX4_works_108 : decode cX4_works 108 = .ok (.iload_n 1, 1) := by decide +kernel
theorem dX4_works_109 : decode cX4_works 109 = .ok (.bipush 8, 2) := by decide +kernel
theorem dX4_works_111 : decode cX4_works 111 = .ok (.invokestatic 45, 3) := by decide +kernel
theorem dX4_works_114 : decode cX4_works 114 = .ok (.aload_n 0, 1) := by decide +kernel
theorem dX4_works_115 : decode cX4_works 115 = .ok (.iload_n 1, 1) := by decide +kernel
theorem dX4_works_116 : decode cX4_works 116 = .ok (.bipush 8, 2) := by decide +kernel
theorem dX4_works_118 : decode cX4_works 118 = .ok (.invokevirtual 55, 3) := by decide +kernel
theorem dX4_works_121 : decode cX4_works 121 = .ok (.iconst 1, 1) := by decide +kernel
theorem dX4_works_122 : decode cX4_works 122 = .ok (.iadd, 1) := by decide +kernel
theorem dX4_works_123 : decode cX4_works 123 = .ok (.iconst 0, 1) := by decide +kernel
theorem dX4_works_124 : decode cX4_works 124 = .ok (.sipush 9999, 3) := by decide +kernel
theorem dX4_works_127 : decode cX4_works 127 = .ok (.invokestatic 149, 3) := by decide +kernel
theorem dX4_works_130 : decode cX4_works 130 = .ok (.iastore, 1) := by decide +kernel
theorem dX4_works_131 : decode cX4_works 131 = .ok (.return_, 1) := by decide +kernel
theorem dX4_hour_0 : decode cX4_hour 0 = .ok (.iconst 0, 1) := by decide +kernel
theorem dX4_hour_1 : decode cX4_hour 1 = .ok (.istore_n 1, 1) := by decide +kernel
theorem dX4_hour_2 : decode cX4_hour 2 = .ok (.iload_n 1, 1) := by decide +kernel
theorem dX4_hour_3 : decode cX4_hour 3 = .ok (.aload_n 0, 1) := by decide +kernel
theorem dX4_hour_4 : decode cX4_hour 4 = .ok (.getfield 7, 3) := by decide +kernel
theorem dX4_hour_7 : decode cX4_hour 7 = .ok (.iconst 1, 1) := by decide +kernel
theorem dX4_hour_8 : decode cX4_hour 8 = .ok (.iaload, 1) := by decide +kernel
theorem dX4_hour_9 : decode cX4_hour 9 = .ok (.if_icmp .ge 40, 3) := by decide +kernel
theorem dX4_hour_12 : decode cX4_hour 12 = .ok (.aload_n 0, 1) := by decide +kernel
theorem dX4_hour_13 : decode cX4_hour 13 = .ok (.iload_n 1, 1) := by decide +kernel
theorem dX4_hour_14 : decode cX4_hour 14 = .ok (.bipush 7, 2) := by decide +kernel
theorem dX4_hour_16 : decode cX4_hour 16 = .ok (.invokevirtual 55, 3) := by decide +kernel
theorem dX4_hour_19 : decode cX4_hour 19 = .ok (.ifCond .ne 24, 3) := by decide +kernel
theorem dX4_hour_22 : decode cX4_hour 22 = .ok (.aload_n 0, 1) := by decide +kernel
theorem dX4_hour_23 : decode cX4_hour 23 = .ok (.iload_n 1, 1) := by decide +kernel
theorem dX4_hour_24 : decode cX4_hour 24 = .ok (.invokevirtual 82, 3) := by decide +kernel
theorem dX4_hour_27 : decode cX4_hour 27 = .ok (.ifCond .ne 16, 3) := by decide +kernel
theorem dX4_hour_30 : decode cX4_hour 30 = .ok (.aload_n 0, 1) := by decide +kernel
theorem dX4_hour_31 : decode cX4_hour 31 = .ok (.iload_n 1, 1) := by decide +kernel
theorem dX4_hour_32 : decode cX4_hour 32 = .ok (.invokevirtual 98, 3) := by decide +kernel
theorem dX4_hour_35 : decode cX4_hour 35 = .ok (.ifCond .ne 8, 3) := by decide +kernel
theorem dX4_hour_38 : decode cX4_hour 38 = .ok (.aload_n 0, 1) := by decide +kernel
theorem dX4_hour_39 : decode cX4_hour 39 = .ok (.iload_n 1, 1) := by decide +kernel
theorem dX4_hour_40 : decode cX4_hour 40 = .ok (.invokevirtual 155, 3) := by decide +kernel
theorem dX4_hour_43 : decode cX4_hour 43 = .ok (.iinc 1 1, 3) := by decide +kernel
theorem dX4_hour_46 : decode cX4_hour 46 = .ok (.goto (-44), 3) := by decide +kernel
theorem dX4_hour_49 : decode cX4_hour 49 = .ok (.aload_n 0, 1) := by decide +kernel
theorem dX4_hour_50 : decode cX4_hour 50 = .ok (.getfield 7, 3) := by decide +kernel
theorem dX4_hour_53 : decode cX4_hour 53 = .ok (.iconst 0, 1) := by decide +kernel
theorem dX4_hour_54 : decode cX4_hour 54 = .ok (.dup2, 1) := by decide +kernel
theorem dX4_hour_55 : decode cX4_hour 55 = .ok (.iaload, 1) := by decide +kernel
theorem dX4_hour_56 : decode cX4_hour 56 = .ok (.iconst 1, 1) := by decide +kernel
theorem dX4_hour_57 : decode cX4_hour 57 = .ok (.iadd, 1) := by decide +kernel
theorem dX4_hour_58 : decode cX4_hour 58 = .ok (.iastore, 1) := by decide +kernel
theorem dX4_hour_59 : decode cX4_hour 59 = .ok (.return_, 1) := by decide +kernel
theorem dX4_hoursGo_0 : decode cX4_hoursGo 0 = .ok (.iconst 0, 1) := by decide +kernel
theorem dX4_hoursGo_1 : decode cX4_hoursGo 1 = .ok (.istore_n 2, 1) := by decide +kernel
theorem dX4_hoursGo_2 : decode cX4_hoursGo 2 = .ok (.iload_n 2, 1) := by decide +kernel
theorem dX4_hoursGo_3 : decode cX4_hoursGo 3 = .ok (.iload_n 1, 1) := by decide +kernel
theorem dX4_hoursGo_4 : decode cX4_hoursGo 4 = .ok (.if_icmp .ge 13, 3) := by decide +kernel
theorem dX4_hoursGo_7 : decode cX4_hoursGo 7 = .ok (.aload_n 0, 1) := by decide +kernel
theorem dX4_hoursGo_8 : decode cX4_hoursGo 8 = .ok (.invokevirtual 159, 3) := by decide +kernel
theorem dX4_hoursGo_11 : decode cX4_hoursGo 11 = .ok (.iinc 2 1, 3) := by decide +kernel
theorem dX4_hoursGo_14 : decode cX4_hoursGo 14 = .ok (.goto (-12), 3) := by decide +kernel
theorem dX4_hoursGo_17 : decode cX4_hoursGo 17 = .ok (.return_, 1) := by decide +kernel
theorem dX4_hours_0 : decode cX4_hours 0 = .ok (.iload_n 1, 1) := by decide +kernel
theorem dX4_hours_1 : decode cX4_hours 1 = .ok (.i2l, 1) := by decide +kernel
theorem dX4_hours_2 : decode cX4_hours 2 = .ok (.lconst 1, 1) := by decide +kernel
theorem dX4_hours_3 : decode cX4_hours 3 = .ok (.ldc2_w 162, 3) := by decide +kernel
theorem dX4_hours_6 : decode cX4_hours 6 = .ok (.invokestatic 49, 3) := by decide +kernel
theorem dX4_hours_9 : decode cX4_hours 9 = .ok (.ifCond .ne 10, 3) := by decide +kernel
theorem dX4_hours_12 : decode cX4_hours 12 = .ok (.aload_n 0, 1) := by decide +kernel
theorem dX4_hours_13 : decode cX4_hours 13 = .ok (.ldc 44, 2) := by decide +kernel
theorem dX4_hours_15 : decode cX4_hours 15 = .ok (.invokevirtual 63, 3) := by decide +kernel
theorem dX4_hours_18 : decode cX4_hours 18 = .ok (.ireturn, 1) := by decide +kernel
theorem dX4_hours_19 : decode cX4_hours 19 = .ok (.aload_n 0, 1) := by decide +kernel
theorem dX4_hours_20 : decode cX4_hours 20 = .ok (.getfield 7, 3) := by decide +kernel
theorem dX4_hours_23 : decode cX4_hours 23 = .ok (.iconst 0, 1) := by decide +kernel
theorem dX4_hours_24 : decode cX4_hours 24 = .ok (.iaload, 1) := by decide +kernel
theorem dX4_hours_25 : decode cX4_hours 25 = .ok (.iload_n 1, 1) := by decide +kernel
theorem dX4_hours_26 : decode cX4_hours 26 = .ok (.iadd, 1) := by decide +kernel
theorem dX4_hours_27 : decode cX4_hours 27 = .ok (.ldc 164, 2) := by decide +kernel
theorem dX4_hours_29 : decode cX4_hours 29 = .ok (.if_icmp .le 10, 3) := by decide +kernel
theorem dX4_hours_32 : decode cX4_hours 32 = .ok (.aload_n 0, 1) := by decide +kernel
theorem dX4_hours_33 : decode cX4_hours 33 = .ok (.ldc 165, 2) := by decide +kernel
theorem dX4_hours_35 : decode cX4_hours 35 = .ok (.invokevirtual 63, 3) := by decide +kernel
theorem dX4_hours_38 : decode cX4_hours 38 = .ok (.ireturn, 1) := by decide +kernel
theorem dX4_hours_39 : decode cX4_hours 39 = .ok (.aload_n 0, 1) := by decide +kernel
theorem dX4_hours_40 : decode cX4_hours 40 = .ok (.iload_n 1, 1) := by decide +kernel
theorem dX4_hours_41 : decode cX4_hours 41 = .ok (.invokevirtual 166, 3) := by decide +kernel
theorem dX4_hours_44 : decode cX4_hours 44 = .ok (.aload_n 0, 1) := by decide +kernel
theorem dX4_hours_45 : decode cX4_hours 45 = .ok (.invokevirtual 101, 3) := by decide +kernel
theorem dX4_hours_48 : decode cX4_hours 48 = .ok (.ireturn, 1) := by decide +kernel
theorem dX4_isAhead_0 : decode cX4_isAhead 0 = .ok (.iload_n 0, 1) := by decide +kernel
theorem dX4_isAhead_1 : decode cX4_isAhead 1 = .ok (.i2l, 1) := by decide +kernel
theorem dX4_isAhead_2 : decode cX4_isAhead 2 = .ok (.lconst 0, 1) := by decide +kernel
theorem dX4_isAhead_3 : decode cX4_isAhead 3 = .ok (.ldc2_w 169, 3) := by decide +kernel
theorem dX4_isAhead_6 : decode cX4_isAhead 6 = .ok (.invokestatic 49, 3) := by decide +kernel
theorem dX4_isAhead_9 : decode cX4_isAhead 9 = .ok (.ireturn, 1) := by decide +kernel
theorem dX4_behind_0 : decode cX4_behind 0 = .ok (.aload_n 0, 1) := by decide +kernel
theorem dX4_behind_1 : decode cX4_behind 1 = .ok (.invokevirtual 171, 3) := by decide +kernel
theorem dX4_behind_4 : decode cX4_behind 4 = .ok (.aload_n 0, 1) := by decide +kernel
theorem dX4_behind_5 : decode cX4_behind 5 = .ok (.iload_n 2, 1) := by decide +kernel
theorem dX4_behind_6 : decode cX4_behind 6 = .ok (.invokevirtual 166, 3) := by decide +kernel
theorem dX4_behind_9 : decode cX4_behind 9 = .ok (.aload_n 0, 1) := by decide +kernel
theorem dX4_behind_10 : decode cX4_behind 10 = .ok (.aload_n 0, 1) := by decide +kernel
theorem dX4_behind_11 : decode cX4_behind 11 = .ok (.getfield 7, 3) := by decide +kernel
theorem dX4_behind_14 : decode cX4_behind 14 = .ok (.iload_n 1, 1) := by decide +kernel
theorem dX4_behind_15 : decode cX4_behind 15 = .ok (.iaload, 1) := by decide +kernel
theorem dX4_behind_16 : decode cX4_behind 16 = .ok (.invokevirtual 174, 3) := by decide +kernel
theorem dX4_behind_19 : decode cX4_behind 19 = .ok (.ireturn, 1) := by decide +kernel
theorem dX4_contentMany_0 : decode cX4_contentMany 0 = .ok (.iconst 0, 1) := by decide +kernel
theorem dX4_contentMany_1 : decode cX4_contentMany 1 = .ok (.istore_n 1, 1) := by decide +kernel
theorem dX4_contentMany_2 : decode cX4_contentMany 2 = .ok (.iconst 0, 1) := by decide +kernel
theorem dX4_contentMany_3 : decode cX4_contentMany 3 = .ok (.istore_n 2, 1) := by decide +kernel
theorem dX4_contentMany_4 : decode cX4_contentMany 4 = .ok (.iload_n 2, 1) := by decide +kernel
theorem dX4_contentMany_5 : decode cX4_contentMany 5 = .ok (.aload_n 0, 1) := by decide +kernel
theorem dX4_contentMany_6 : decode cX4_contentMany 6 = .ok (.getfield 7, 3) := by decide +kernel
theorem dX4_contentMany_9 : decode cX4_contentMany 9 = .ok (.iconst 1, 1) := by decide +kernel
theorem dX4_contentMany_10 : decode cX4_contentMany 10 = .ok (.iaload, 1) := by decide +kernel
theorem dX4_contentMany_11 : decode cX4_contentMany 11 = .ok (.if_icmp .ge 25, 3) := by decide +kernel
theorem dX4_contentMany_14 : decode cX4_contentMany 14 = .ok (.iload_n 1, 1) := by decide +kernel
theorem dX4_contentMany_15 : decode cX4_contentMany 15 = .ok (.aload_n 0, 1) := by decide +kernel
theorem dX4_contentMany_16 : decode cX4_contentMany 16 = .ok (.iload_n 2, 1) := by decide +kernel
theorem dX4_contentMany_17 : decode cX4_contentMany 17 = .ok (.invokevirtual 82, 3) := by decide +kernel
theorem dX4_contentMany_20 : decode cX4_contentMany 20 = .ok (.ifCond .eq 7, 3) := by decide +kernel
theorem dX4_contentMany_23 : decode cX4_contentMany 23 = .ok (.iconst 1, 1) := by decide +kernel
theorem dX4_contentMany_24 : decode cX4_contentMany 24 = .ok (.goto 4, 3) := by decide +kernel
theorem dX4_contentMany_27 : decode cX4_contentMany 27 = .ok (.iconst 0, 1) := by decide +kernel
theorem dX4_contentMany_28 : decode cX4_contentMany 28 = .ok (.iadd, 1) := by decide +kernel
theorem dX4_contentMany_29 : decode cX4_contentMany 29 = .ok (.istore_n 1, 1) := by decide +kernel
theorem dX4_contentMany_30 : decode cX4_contentMany 30 = .ok (.iinc 2 1, 3) := by decide +kernel
theorem dX4_contentMany_33 : decode cX4_contentMany 33 = .ok (.goto (-29), 3) := by decide +kernel
theorem dX4_contentMany_36 : decode cX4_contentMany 36 = .ok (.iload_n 1, 1) := by decide +kernel
theorem dX4_contentMany_37 : decode cX4_contentMany 37 = .ok (.ireturn, 1) := by decide +kernel
theorem dX4_manyBehind_0 : decode cX4_manyBehind 0 = .ok (.aload_n 0, 1) := by decide +kernel
theorem dX4_manyBehind_1 : decode cX4_manyBehind 1 = .ok (.invokevirtual 171, 3) := by decide +kernel
theorem dX4_manyBehind_4 : decode cX4_manyBehind 4 = .ok (.aload_n 0, 1) := by decide +kernel
theorem dX4_manyBehind_5 : decode cX4_manyBehind 5 = .ok (.iload_n 1, 1) := by decide +kernel
theorem dX4_manyBehind_6 : decode cX4_manyBehind 6 = .ok (.invokevirtual 166, 3) := by decide +kernel
theorem dX4_manyBehind_9 : decode cX4_manyBehind 9 = .ok (.aload_n 0, 1) := by decide +kernel
theorem dX4_manyBehind_10 : decode cX4_manyBehind 10 = .ok (.aload_n 0, 1) := by decide +kernel
theorem dX4_manyBehind_11 : decode cX4_manyBehind 11 = .ok (.invokevirtual 177, 3) := by decide +kernel
theorem dX4_manyBehind_14 : decode cX4_manyBehind 14 = .ok (.invokevirtual 174, 3) := by decide +kernel
theorem dX4_manyBehind_17 : decode cX4_manyBehind 17 = .ok (.ireturn, 1) := by decide +kernel
theorem dX4_on_0 : decode cX4_on 0 = .ok (.aload_n 0, 1) := by decide +kernel
theorem dX4_on_1 : decode cX4_on 1 = .ok (.iload_n 1, 1) := by decide +kernel
theorem dX4_on_2 : decode cX4_on 2 = .ok (.invokevirtual 128, 3) := by decide +kernel
theorem dX4_on_5 : decode cX4_on 5 = .ok (.ifCond .eq 22, 3) := by decide +kernel
theorem dX4_on_8 : decode cX4_on 8 = .ok (.iload_n 2, 1) := by decide +kernel
theorem dX4_on_9 : decode cX4_on 9 = .ok (.invokestatic 180, 3) := by decide +kernel
theorem dX4_on_12 : decode cX4_on 12 = .ok (.ifCond .eq 15, 3) := by decide +kernel
theorem dX4_on_15 : decode cX4_on 15 = .ok (.iload_n 3, 1) := by decide +kernel
theorem dX4_on_16 : decode cX4_on 16 = .ok (.i2l, 1) := by decide +kernel
theorem dX4_on_17 : decode cX4_on 17 = .ok (.lconst 0, 1) := by decide +kernel
theorem dX4_on_18 : decode cX4_on 18 = .ok (.ldc2_w 116, 3) := by decide +kernel
theorem dX4_on_21 : decode cX4_on 21 = .ok (.invokestatic 49, 3) := by decide +kernel
theorem dX4_on_24 : decode cX4_on 24 = .ok (.ifCond .ne 10, 3) := by decide +kernel
theorem dX4_on_27 : decode cX4_on 27 = .ok (.aload_n 0, 1) := by decide +kernel
theorem dX4_on_28 : decode cX4_on 28 = .ok (.ldc 44, 2) := by decide +kernel
theorem dX4_on_30 : decode cX4_on 30 = .ok (.invokevirtual 63, 3) := by decide +kernel
theorem dX4_on_33 : decode cX4_on 33 = .ok (.ireturn, 1) := by decide +kernel
theorem dX4_on_34 : decode cX4_on 34 = .ok (.aload_n 0, 1) := by decide +kernel
theorem dX4_on_35 : decode cX4_on 35 = .ok (.iload_n 1, 1) := by decide +kernel
theorem dX4_on_36 : decode cX4_on 36 = .ok (.iload_n 3, 1) := by decide +kernel
theorem dX4_on_37 : decode cX4_on 37 = .ok (.iconst 3, 1) := by decide +kernel
theorem dX4_on_38 : decode cX4_on 38 = .ok (.if_icmp .ne 8, 3) := by decide +kernel
theorem dX4_on_41 : decode cX4_on 41 = .ok (.bipush 8, 2) := by decide +kernel
theorem dX4_on_43 : decode cX4_on 43 = .ok (.goto 6, 3) := by decide +kernel
theorem dX4_on_46 : decode cX4_on 46 = .ok (.iconst 2, 1) := by decide +kernel
theorem dX4_on_47 : decode cX4_on 47 = .ok (.iload_n 3, 1) := by decide +kernel
theorem dX4_on_48 : decode cX4_on 48 = .ok (.iadd, 1) := by decide +kernel
theorem dX4_on_49 : decode cX4_on 49 = .ok (.invokestatic 45, 3) := by decide +kernel
theorem dX4_on_52 : decode cX4_on 52 = .ok (.iload_n 2, 1) := by decide +kernel
theorem dX4_on_53 : decode cX4_on 53 = .ok (.invokevirtual 183, 3) := by decide +kernel
theorem dX4_on_56 : decode cX4_on 56 = .ok (.ireturn, 1) := by decide +kernel
theorem dX4_toldAt_0 : decode cX4_toldAt 0 = .ok (.aload_n 0, 1) := by decide +kernel
theorem dX4_toldAt_1 : decode cX4_toldAt 1 = .ok (.iload_n 1, 1) := by decide +kernel
theorem dX4_toldAt_2 : decode cX4_toldAt 2 = .ok (.invokevirtual 174, 3) := by decide +kernel
theorem dX4_toldAt_5 : decode cX4_toldAt 5 = .ok (.istore_n 2, 1) := by decide +kernel
theorem dX4_toldAt_6 : decode cX4_toldAt 6 = .ok (.iload_n 2, 1) := by decide +kernel
theorem dX4_toldAt_7 : decode cX4_toldAt 7 = .ok (.sipush 200, 3) := by decide +kernel
theorem dX4_toldAt_10 : decode cX4_toldAt 10 = .ok (.if_icmp .le 12, 3) := by decide +kernel
theorem dX4_toldAt_13 : decode cX4_toldAt 13 = .ok (.aload_n 0, 1) := by decide +kernel
theorem dX4_toldAt_14 : decode cX4_toldAt 14 = .ok (.ldc 186, 2) := by decide +kernel
theorem dX4_toldAt_16 : decode cX4_toldAt 16 = .ok (.invokevirtual 63, 3) := by decide +kernel
theorem dX4_toldAt_19 : decode cX4_toldAt 19 = .ok (.goto 4, 3) := by decide +kernel
theorem dX4_toldAt_22 : decode cX4_toldAt 22 = .ok (.iload_n 2, 1) := by decide +kernel
theorem dX4_toldAt_23 : decode cX4_toldAt 23 = .ok (.ireturn, 1) := by decide +kernel
theorem dX4_when_0 : decode cX4_when 0 = .ok (.aload_n 0, 1) := by decide +kernel
theorem dX4_when_1 : decode cX4_when 1 = .ok (.iload_n 1, 1) := by decide +kernel
theorem dX4_when_2 : decode cX4_when 2 = .ok (.invokevirtual 128, 3) := by decide +kernel
theorem dX4_when_5 : decode cX4_when 5 = .ok (.ifCond .ne 10, 3) := by decide +kernel
theorem dX4_when_8 : decode cX4_when 8 = .ok (.aload_n 0, 1) := by decide +kernel
theorem dX4_when_9 : decode cX4_when 9 = .ok (.ldc 44, 2) := by decide +kernel
theorem dX4_when_11 : decode cX4_when 11 = .ok (.invokevirtual 63, 3) := by decide +kernel
theorem dX4_when_14 : decode cX4_when 14 = .ok (.ireturn, 1) := by decide +kernel
theorem dX4_when_15 : decode cX4_when 15 = .ok (.aload_n 0, 1) := by decide +kernel
theorem dX4_when_16 : decode cX4_when 16 = .ok (.invokevirtual 171, 3) := by decide +kernel
theorem dX4_when_19 : decode cX4_when 19 = .ok (.iconst 0, 1) := by decide +kernel
theorem dX4_when_20 : decode cX4_when 20 = .ok (.istore_n 2, 1) := by decide +kernel
theorem dX4_when_21 : decode cX4_when 21 = .ok (.iload_n 2, 1) := by decide +kernel
theorem dX4_when_22 : decode cX4_when 22 = .ok (.sipush 200, 3) := by decide +kernel
theorem dX4_when_25 : decode cX4_when 25 = .ok (.if_icmp .gt 21, 3) := by decide +kernel
theorem dX4_when_28 : decode cX4_when 28 = .ok (.aload_n 0, 1) := by decide +kernel
theorem dX4_when_29 : decode cX4_when 29 = .ok (.iload_n 1, 1) := by decide +kernel
theorem dX4_when_30 : decode cX4_when 30 = .ok (.invokevirtual 82, 3) := by decide +kernel
theorem dX4_when_33 : decode cX4_when 33 = .ok (.ifCond .ne 13, 3) := by decide +kernel
theorem dX4_when_36 : decode cX4_when 36 = .ok (.aload_n 0, 1) := by decide +kernel
theorem dX4_when_37 : decode cX4_when 37 = .ok (.invokevirtual 159, 3) := by decide +kernel
theorem dX4_when_40 : decode cX4_when 40 = .ok (.iinc 2 1, 3) := by decide +kernel
theorem dX4_when_43 : decode cX4_when 43 = .ok (.goto (-22), 3) := by decide +kernel
theorem dX4_when_46 : decode cX4_when 46 = .ok (.aload_n 0, 1) := by decide +kernel
theorem dX4_when_47 : decode cX4_when 47 = .ok (.iload_n 2, 1) := by decide +kernel
theorem dX4_when_48 : decode cX4_when 48 = .ok (.invokevirtual 187, 3) := by decide +kernel
theorem dX4_when_51 : decode cX4_when 51 = .ok (.ireturn, 1) := by decide +kernel
theorem dX4_all_0 : decode cX4_all 0 = .ok (.aload_n 0, 1) := by decide +kernel
theorem dX4_all_1 : decode cX4_all 1 = .ok (.invokevirtual 171, 3) := by decide +kernel
theorem dX4_all_4 : decode cX4_all 4 = .ok (.iconst 0, 1) := by decide +kernel
theorem dX4_all_5 : decode cX4_all 5 = .ok (.istore_n 1, 1) := by decide +kernel
theorem dX4_all_6 : decode cX4_all 6 = .ok (.iload_n 1, 1) := by decide +kernel
theorem dX4_all_7 : decode cX4_all 7 = .ok (.sipush 200, 3) := by decide +kernel
theorem dX4_all_10 : decode cX4_all 10 = .ok (.if_icmp .gt 26, 3) := by decide +kernel
theorem dX4_all_13 : decode cX4_all 13 = .ok (.aload_n 0, 1) := by decide +kernel
theorem dX4_all_14 : decode cX4_all 14 = .ok (.invokevirtual 177, 3) := by decide +kernel
theorem dX4_all_17 : decode cX4_all 17 = .ok (.aload_n 0, 1) := by decide +kernel
theorem dX4_all_18 : decode cX4_all 18 = .ok (.getfield 7, 3) := by decide +kernel
theorem dX4_all_21 : decode cX4_all 21 = .ok (.iconst 1, 1) := by decide +kernel
theorem dX4_all_22 : decode cX4_all 22 = .ok (.iaload, 1) := by decide +kernel
theorem dX4_all_23 : decode cX4_all 23 = .ok (.if_icmp .ge 13, 3) := by decide +kernel
theorem dX4_all_26 : decode cX4_all 26 = .ok (.aload_n 0, 1) := by decide +kernel
theorem dX4_all_27 : decode cX4_all 27 = .ok (.invokevirtual 159, 3) := by decide +kernel
theorem dX4_all_30 : decode cX4_all 30 = .ok (.iinc 1 1, 3) := by decide +kernel
theorem dX4_all_33 : decode cX4_all 33 = .ok (.goto (-27), 3) := by decide +kernel
theorem dX4_all_36 : decode cX4_all 36 = .ok (.aload_n 0, 1) := by decide +kernel
theorem dX4_all_37 : decode cX4_all 37 = .ok (.iload_n 1, 1) := by decide +kernel
theorem dX4_all_38 : decode cX4_all 38 = .ok (.invokevirtual 187, 3) := by decide +kernel
theorem dX4_all_41 : decode cX4_all 41 = .ok (.ireturn, 1) := by decide +kernel
theorem dX4_many_0 : decode cX4_many 0 = .ok (.iload_n 1, 1) := by decide +kernel
theorem dX4_many_1 : decode cX4_many 1 = .ok (.invokestatic 180, 3) := by decide +kernel
theorem dX4_many_4 : decode cX4_many 4 = .ok (.ifCond .eq 11, 3) := by decide +kernel
theorem dX4_many_7 : decode cX4_many 7 = .ok (.aload_n 0, 1) := by decide +kernel
theorem dX4_many_8 : decode cX4_many 8 = .ok (.iload_n 1, 1) := by decide +kernel
theorem dX4_many_9 : decode cX4_many 9 = .ok (.invokevirtual 190, 3) := by decide +kernel
theorem dX4_many_12 : decode cX4_many 12 = .ok (.goto 9, 3) := by decide +kernel
theorem dX4_many_15 : decode cX4_many 15 = .ok (.aload_n 0, 1) := by decide +kernel
theorem dX4_many_16 : decode cX4_many 16 = .ok (.ldc 44, 2) := by decide +kernel
theorem dX4_many_18 : decode cX4_many 18 = .ok (.invokevirtual 63, 3) := by decide +kernel
theorem dX4_many_21 : decode cX4_many 21 = .ok (.ireturn, 1) := by decide +kernel
theorem dX4_isSoon_0 : decode cX4_isSoon 0 = .ok (.iload_n 0, 1) := by decide +kernel
theorem dX4_isSoon_1 : decode cX4_isSoon 1 = .ok (.i2l, 1) := by decide +kernel
theorem dX4_isSoon_2 : decode cX4_isSoon 2 = .ok (.lconst 1, 1) := by decide +kernel
theorem dX4_isSoon_3 : decode cX4_isSoon 3 = .ok (.ldc2_w 193, 3) := by decide +kernel
theorem dX4_isSoon_6 : decode cX4_isSoon 6 = .ok (.invokestatic 49, 3) := by decide +kernel
theorem dX4_isSoon_9 : decode cX4_isSoon 9 = .ok (.ireturn, 1) := by decide +kernel
theorem dX4_mostBy_0 : decode cX4_mostBy 0 = .ok (.aload_n 0, 1) := by decide +kernel
theorem dX4_mostBy_1 : decode cX4_mostBy 1 = .ok (.getfield 7, 3) := by decide +kernel
theorem dX4_mostBy_4 : decode cX4_mostBy 4 = .ok (.iload_n 1, 1) := by decide +kernel
theorem dX4_mostBy_5 : decode cX4_mostBy 5 = .ok (.iaload, 1) := by decide +kernel
theorem dX4_mostBy_6 : decode cX4_mostBy 6 = .ok (.istore 4, 2) := by decide +kernel
theorem dX4_mostBy_8 : decode cX4_mostBy 8 = .ok (.iconst 0, 1) := by decide +kernel
theorem dX4_mostBy_9 : decode cX4_mostBy 9 = .ok (.istore 5, 2) := by decide +kernel
theorem dX4_mostBy_11 : decode cX4_mostBy 11 = .ok (.iconst (-1), 1) := by decide +kernel
theorem dX4_mostBy_12 : decode cX4_mostBy 12 = .ok (.istore 6, 2) := by decide +kernel
theorem dX4_mostBy_14 : decode cX4_mostBy 14 = .ok (.iconst 0, 1) := by decide +kernel
theorem dX4_mostBy_15 : decode cX4_mostBy 15 = .ok (.istore 7, 2) := by decide +kernel
theorem dX4_mostBy_17 : decode cX4_mostBy 17 = .ok (.iload 7, 2) := by decide +kernel
theorem dX4_mostBy_19 : decode cX4_mostBy 19 = .ok (.iload_n 2, 1) := by decide +kernel
theorem dX4_mostBy_20 : decode cX4_mostBy 20 = .ok (.if_icmp .gt 56, 3) := by decide +kernel
theorem dX4_mostBy_23 : decode cX4_mostBy 23 = .ok (.aload_n 0, 1) := by decide +kernel
theorem dX4_mostBy_24 : decode cX4_mostBy 24 = .ok (.getfield 7, 3) := by decide +kernel
theorem dX4_mostBy_27 : decode cX4_mostBy 27 = .ok (.iload_n 1, 1) := by decide +kernel
theorem dX4_mostBy_28 : decode cX4_mostBy 28 = .ok (.iload 7, 2) := by decide +kernel
theorem dX4_mostBy_30 : decode cX4_mostBy 30 = .ok (.iastore, 1) := by decide +kernel
theorem dX4_mostBy_31 : decode cX4_mostBy 31 = .ok (.aload_n 0, 1) := by decide +kernel
theorem dX4_mostBy_32 : decode cX4_mostBy 32 = .ok (.iload_n 3, 1) := by decide +kernel
theorem dX4_mostBy_33 : decode cX4_mostBy 33 = .ok (.invokevirtual 190, 3) := by decide +kernel
theorem dX4_mostBy_36 : decode cX4_mostBy 36 = .ok (.istore 8, 2) := by decide +kernel
theorem dX4_mostBy_38 : decode cX4_mostBy 38 = .ok (.iload 8, 2) := by decide +kernel
theorem dX4_mostBy_40 : decode cX4_mostBy 40 = .ok (.iload 6, 2) := by decide +kernel
theorem dX4_mostBy_42 : decode cX4_mostBy 42 = .ok (.if_icmp .le 8, 3) := by decide +kernel
theorem dX4_mostBy_45 : decode cX4_mostBy 45 = .ok (.iload 7, 2) := by decide +kernel
theorem dX4_mostBy_47 : decode cX4_mostBy 47 = .ok (.goto 5, 3) := by decide +kernel
theorem dX4_mostBy_50 : decode cX4_mostBy 50 = .ok (.iload 5, 2) := by decide +kernel
theorem dX4_mostBy_52 : decode cX4_mostBy 52 = .ok (.istore 5, 2) := by decide +kernel
theorem dX4_mostBy_54 : decode cX4_mostBy 54 = .ok (.iload 8, 2) := by decide +kernel
theorem dX4_mostBy_56 : decode cX4_mostBy 56 = .ok (.iload 6, 2) := by decide +kernel
theorem dX4_mostBy_58 : decode cX4_mostBy 58 = .ok (.if_icmp .le 8, 3) := by decide +kernel
theorem dX4_mostBy_61 : decode cX4_mostBy 61 = .ok (.iload 8, 2) := by decide +kernel
theorem dX4_mostBy_63 : decode cX4_mostBy 63 = .ok (.goto 5, 3) := by decide +kernel
theorem dX4_mostBy_66 : decode cX4_mostBy 66 = .ok (.iload 6, 2) := by decide +kernel
theorem dX4_mostBy_68 : decode cX4_mostBy 68 = .ok (.istore 6, 2) := by decide +kernel
theorem dX4_mostBy_70 : decode cX4_mostBy 70 = .ok (.iinc 7 1, 3) := by decide +kernel
theorem dX4_mostBy_73 : decode cX4_mostBy 73 = .ok (.goto (-56), 3) := by decide +kernel
theorem dX4_mostBy_76 : decode cX4_mostBy 76 = .ok (.aload_n 0, 1) := by decide +kernel
theorem dX4_mostBy_77 : decode cX4_mostBy 77 = .ok (.getfield 7, 3) := by decide +kernel
theorem dX4_mostBy_80 : decode cX4_mostBy 80 = .ok (.iload_n 1, 1) := by decide +kernel
theorem dX4_mostBy_81 : decode cX4_mostBy 81 = .ok (.iload 4, 2) := by decide +kernel
theorem dX4_mostBy_83 : decode cX4_mostBy 83 = .ok (.iastore, 1) := by decide +kernel
theorem dX4_mostBy_84 : decode cX4_mostBy 84 = .ok (.iload 5, 2) := by decide +kernel
theorem dX4_mostBy_86 : decode cX4_mostBy 86 = .ok (.ireturn, 1) := by decide +kernel
theorem dX4_porter_0 : decode cX4_porter 0 = .ok (.iload_n 1, 1) := by decide +kernel
theorem dX4_porter_1 : decode cX4_porter 1 = .ok (.invokestatic 195, 3) := by decide +kernel
theorem dX4_porter_4 : decode cX4_porter 4 = .ok (.ifCond .ne 10, 3) := by decide +kernel
theorem dX4_porter_7 : decode cX4_porter 7 = .ok (.aload_n 0, 1) := by decide +kernel
theorem dX4_porter_8 : decode cX4_porter 8 = .ok (.ldc 44, 2) := by decide +kernel
theorem dX4_porter_10 : decode cX4_porter 10 = .ok (.invokevirtual 63, 3) := by decide +kernel
theorem dX4_porter_13 : decode cX4_porter 13 = .ok (.ireturn, 1) := by decide +kernel
theorem dX4_porter_14 : decode cX4_porter 14 = .ok (.iconst (-1), 1) := by decide +kernel
theorem dX4_porter_15 : decode cX4_porter 15 = .ok (.istore_n 2, 1) := by decide +kernel
theorem dX4_porter_16 : decode cX4_porter 16 = .ok (.iconst (-1), 1) := by decide +kernel
theorem dX4_porter_17 : decode cX4_porter 17 = .ok (.istore_n 3, 1) := by decide +kernel
theorem dX4_porter_18 : decode cX4_porter 18 = .ok (.iconst 0, 1) := by decide +kernel
theorem dX4_porter_19 : decode cX4_porter 19 = .ok (.istore 4, 2) := by decide +kernel
theorem dX4_porter_21 : decode cX4_porter 21 = .ok (.iload 4, 2) := by decide +kernel
theorem dX4_porter_23 : decode cX4_porter 23 = .ok (.aload_n 0, 1) := by decide +kernel
theorem dX4_porter_24 : decode cX4_porter 24 = .ok (.getfield 7, 3) := by decide +kernel
theorem dX4_porter_27 : decode cX4_porter 27 = .ok (.iconst 1, 1) := by decide +kernel
theorem dX4_porter_28 : decode cX4_porter 28 = .ok (.iaload, 1) := by decide +kernel
theorem dX4_porter_29 : decode cX4_porter 29 = .ok (.if_icmp .ge 79, 3) := by decide +kernel
theorem dX4_porter_32 : decode cX4_porter 32 = .ok (.aload_n 0, 1) := by decide +kernel
theorem dX4_porter_33 : decode cX4_porter 33 = .ok (.iload 4, 2) := by decide +kernel
theorem dX4_porter_35 : decode cX4_porter 35 = .ok (.bipush 7, 2) := by decide +kernel
theorem dX4_porter_37 : decode cX4_porter 37 = .ok (.invokevirtual 55, 3) := by decide +kernel
theorem dX4_porter_40 : decode cX4_porter 40 = .ok (.ifCond .ne 62, 3) := by decide +kernel
theorem dX4_porter_43 : decode cX4_porter 43 = .ok (.aload_n 0, 1) := by decide +kernel
theorem dX4_porter_44 : decode cX4_porter 44 = .ok (.getfield 7, 3) := by decide +kernel
theorem dX4_porter_47 : decode cX4_porter 47 = .ok (.iload 4, 2) := by decide +kernel
theorem dX4_porter_49 : decode cX4_porter 49 = .ok (.bipush 7, 2) := by decide +kernel
theorem dX4_porter_51 : decode cX4_porter 51 = .ok (.invokestatic 45, 3) := by decide +kernel
theorem dX4_porter_54 : decode cX4_porter 54 = .ok (.iconst 1, 1) := by decide +kernel
theorem dX4_porter_55 : decode cX4_porter 55 = .ok (.iastore, 1) := by decide +kernel
theorem dX4_porter_56 : decode cX4_porter 56 = .ok (.aload_n 0, 1) := by decide +kernel
theorem dX4_porter_57 : decode cX4_porter 57 = .ok (.iload_n 1, 1) := by decide +kernel
theorem dX4_porter_58 : decode cX4_porter 58 = .ok (.invokevirtual 190, 3) := by decide +kernel
theorem dX4_porter_61 : decode cX4_porter 61 = .ok (.istore 5, 2) := by decide +kernel
theorem dX4_porter_63 : decode cX4_porter 63 = .ok (.aload_n 0, 1) := by decide +kernel
theorem dX4_porter_64 : decode cX4_porter 64 = .ok (.getfield 7, 3) := by decide +kernel
theorem dX4_porter_67 : decode cX4_porter 67 = .ok (.iload 4, 2) := by decide +kernel
theorem dX4_porter_69 : decode cX4_porter 69 = .ok (.bipush 7, 2) := by decide +kernel
theorem dX4_porter_71 : decode cX4_porter 71 = .ok (.invokestatic 45, 3) := by decide +kernel
theorem dX4_porter_74 : decode cX4_porter 74 = .ok (.iconst 0, 1) := by decide +kernel
theorem dX4_porter_75 : decode cX4_porter 75 = .ok (.iastore, 1) := by decide +kernel
theorem dX4_porter_76 : decode cX4_porter 76 = .ok (.iload 5, 2) := by decide +kernel
theorem dX4_porter_78 : decode cX4_porter 78 = .ok (.iload_n 3, 1) := by decide +kernel
theorem dX4_porter_79 : decode cX4_porter 79 = .ok (.if_icmp .le 8, 3) := by decide +kernel
theorem dX4_porter_82 : decode cX4_porter 82 = .ok (.iload 4, 2) := by decide +kernel
theorem dX4_porter_84 : decode cX4_porter 84 = .ok (.goto 4, 3) := by decide +kernel
theorem dX4_porter_87 : decode cX4_porter 87 = .ok (.iload_n 2, 1) := by decide +kernel
theorem dX4_porter_88 : decode cX4_porter 88 = .ok (.istore_n 2, 1) := by decide +kernel
theorem dX4_porter_89 : decode cX4_porter 89 = .ok (.iload 5, 2) := by decide +kernel
theorem dX4_porter_91 : decode cX4_porter 91 = .ok (.iload_n 3, 1) := by decide +kernel
theorem dX4_porter_92 : decode cX4_porter 92 = .ok (.if_icmp .le 8, 3) := by decide +kernel
theorem dX4_porter_95 : decode cX4_porter 95 = .ok (.iload 5, 2) := by decide +kernel
theorem dX4_porter_97 : decode cX4_porter 97 = .ok (.goto 4, 3) := by decide +kernel
theorem dX4_porter_100 : decode cX4_porter 100 = .ok (.iload_n 3, 1) := by decide +kernel
theorem dX4_porter_101 : decode cX4_porter 101 = .ok (.istore_n 3, 1) := by decide +kernel
theorem dX4_porter_102 : decode cX4_porter 102 = .ok (.iinc 4 1, 3) := by decide +kernel
theorem dX4_porter_105 : decode cX4_porter 105 = .ok (.goto (-84), 3) := by decide +kernel
theorem dX4_porter_108 : decode cX4_porter 108 = .ok (.iload_n 2, 1) := by decide +kernel
theorem dX4_porter_109 : decode cX4_porter 109 = .ok (.ifCond .ge 12, 3) := by decide +kernel
theorem dX4_porter_112 : decode cX4_porter 112 = .ok (.aload_n 0, 1) := by decide +kernel
theorem dX4_porter_113 : decode cX4_porter 113 = .ok (.ldc 186, 2) := by decide +kernel
theorem dX4_porter_115 : decode cX4_porter 115 = .ok (.invokevirtual 63, 3) := by decide +kernel
theorem dX4_porter_118 : decode cX4_porter 118 = .ok (.goto 4, 3) := by decide +kernel
theorem dX4_porter_121 : decode cX4_porter 121 = .ok (.iload_n 2, 1) := by decide +kernel
theorem dX4_porter_122 : decode cX4_porter 122 = .ok (.ireturn, 1) := by decide +kernel
theorem dX4_by_0 : decode cX4_by 0 = .ok (.iload_n 1, 1) := by decide +kernel
theorem dX4_by_1 : decode cX4_by 1 = .ok (.invokestatic 195, 3) := by decide +kernel
theorem dX4_by_4 : decode cX4_by 4 = .ok (.ifCond .eq 15, 3) := by decide +kernel
theorem dX4_by_7 : decode cX4_by 7 = .ok (.iload_n 2, 1) := by decide +kernel
theorem dX4_by_8 : decode cX4_by 8 = .ok (.i2l, 1) := by decide +kernel
theorem dX4_by_9 : decode cX4_by 9 = .ok (.lconst 0, 1) := by decide +kernel
theorem dX4_by_10 : decode cX4_by 10 = .ok (.ldc2_w 58, 3) := by decide +kernel
theorem dX4_by_13 : decode cX4_by 13 = .ok (.invokestatic 49, 3) := by decide +kernel
theorem dX4_by_16 : decode cX4_by 16 = .ok (.ifCond .ne 10, 3) := by decide +kernel
theorem dX4_by_19 : decode cX4_by 19 = .ok (.aload_n 0, 1) := by decide +kernel
theorem dX4_by_20 : decode cX4_by 20 = .ok (.ldc 44, 2) := by decide +kernel
theorem dX4_by_22 : decode cX4_by 22 = .ok (.invokevirtual 63, 3) := by decide +kernel
theorem dX4_by_25 : decode cX4_by 25 = .ok (.ireturn, 1) := by decide +kernel
theorem dX4_by_26 : decode cX4_by 26 = .ok (.aload_n 0, 1) := by decide +kernel
theorem dX4_by_27 : decode cX4_by 27 = .ok (.getfield 7, 3) := by decide +kernel
theorem dX4_by_30 : decode cX4_by 30 = .ok (.iconst 2, 1) := by decide +kernel
theorem dX4_by_31 : decode cX4_by 31 = .ok (.iaload, 1) := by decide +kernel
theorem dX4_by_32 : decode cX4_by 32 = .ok (.istore_n 3, 1) := by decide +kernel
theorem dX4_by_33 : decode cX4_by 33 = .ok (.iconst (-1), 1) := by decide +kernel
theorem dX4_by_34 : decode cX4_by 34 = .ok (.istore 4, 2) := by decide +kernel
theorem dX4_by_36 : decode cX4_by 36 = .ok (.iconst 0, 1) := by decide +kernel
theorem dX4_by_37 : decode cX4_by 37 = .ok (.istore 5, 2) := by decide +kernel
theorem dX4_by_39 : decode cX4_by 39 = .ok (.iload 5, 2) := by decide +kernel
theorem dX4_by_41 : decode cX4_by 41 = .ok (.bipush 8, 2) := by decide +kernel
theorem dX4_by_43 : decode cX4_by 43 = .ok (.if_icmp .gt 39, 3) := by decide +kernel
theorem dX4_by_46 : decode cX4_by 46 = .ok (.iload 4, 2) := by decide +kernel
theorem dX4_by_48 : decode cX4_by 48 = .ok (.ifCond .ge 34, 3) := by decide +kernel
theorem dX4_by_51 : decode cX4_by 51 = .ok (.aload_n 0, 1) := by decide +kernel
theorem dX4_by_52 : decode cX4_by 52 = .ok (.getfield 7, 3) := by decide +kernel
theorem dX4_by_55 : decode cX4_by 55 = .ok (.iconst 2, 1) := by decide +kernel
theorem dX4_by_56 : decode cX4_by 56 = .ok (.iload 5, 2) := by decide +kernel
theorem dX4_by_58 : decode cX4_by 58 = .ok (.iastore, 1) := by decide +kernel
theorem dX4_by_59 : decode cX4_by 59 = .ok (.aload_n 0, 1) := by decide +kernel
theorem dX4_by_60 : decode cX4_by 60 = .ok (.iload_n 1, 1) := by decide +kernel
theorem dX4_by_61 : decode cX4_by 61 = .ok (.invokevirtual 190, 3) := by decide +kernel
theorem dX4_by_64 : decode cX4_by 64 = .ok (.iload_n 2, 1) := by decide +kernel
theorem dX4_by_65 : decode cX4_by 65 = .ok (.if_icmp .lt 8, 3) := by decide +kernel
theorem dX4_by_68 : decode cX4_by 68 = .ok (.iload 5, 2) := by decide +kernel
theorem dX4_by_70 : decode cX4_by 70 = .ok (.goto 4, 3) := by decide +kernel
theorem dX4_by_73 : decode cX4_by 73 = .ok (.iconst (-1), 1) := by decide +kernel
theorem dX4_by_74 : decode cX4_by 74 = .ok (.istore 4, 2) := by decide +kernel
theorem dX4_by_76 : decode cX4_by 76 = .ok (.iinc 5 1, 3) := by decide +kernel
theorem dX4_by_79 : decode cX4_by 79 = .ok (.goto (-40), 3) := by decide +kernel
theorem dX4_by_82 : decode cX4_by 82 = .ok (.aload_n 0, 1) := by decide +kernel
theorem dX4_by_83 : decode cX4_by 83 = .ok (.getfield 7, 3) := by decide +kernel
theorem dX4_by_86 : decode cX4_by 86 = .ok (.iconst 2, 1) := by decide +kernel
theorem dX4_by_87 : decode cX4_by 87 = .ok (.iload_n 3, 1) := by decide +kernel
theorem dX4_by_88 : decode cX4_by 88 = .ok (.iastore, 1) := by decide +kernel
theorem dX4_by_89 : decode cX4_by 89 = .ok (.iload 4, 2) := by decide +kernel
theorem dX4_by_91 : decode cX4_by 91 = .ok (.ifCond .ge 12, 3) := by decide +kernel
theorem dX4_by_94 : decode cX4_by 94 = .ok (.aload_n 0, 1) := by decide +kernel
theorem dX4_by_95 : decode cX4_by 95 = .ok (.ldc 186, 2) := by decide +kernel
theorem dX4_by_97 : decode cX4_by 97 = .ok (.invokevirtual 63, 3) := by decide +kernel
theorem dX4_by_100 : decode cX4_by 100 = .ok (.goto 5, 3) := by decide +kernel
theorem dX4_by_103 : decode cX4_by 103 = .ok (.iload 4, 2) := by decide +kernel
theorem dX4_by_105 : decode cX4_by 105 = .ok (.ireturn, 1) := by decide +kernel
theorem dX4_kind_0 : decode cX4_kind 0 = .ok (.aload_n 0, 1) := by decide +kernel
theorem dX4_kind_1 : decode cX4_kind 1 = .ok (.iload_n 1, 1) := by decide +kernel
theorem dX4_kind_2 : decode cX4_kind 2 = .ok (.invokevirtual 128, 3) := by decide +kernel
theorem dX4_kind_5 : decode cX4_kind 5 = .ok (.ifCond .eq 15, 3) := by decide +kernel
theorem dX4_kind_8 : decode cX4_kind 8 = .ok (.iload_n 2, 1) := by decide +kernel
theorem dX4_kind_9 : decode cX4_kind 9 = .ok (.i2l, 1) := by decide +kernel
theorem dX4_kind_10 : decode cX4_kind 10 = .ok (.lconst 1, 1) := by decide +kernel
theorem dX4_kind_11 : decode cX4_kind 11 = .ok (.ldc2_w 198, 3) := by decide +kernel
theorem dX4_kind_14 : decode cX4_kind 14 = .ok (.invokestatic 49, 3) := by decide +kernel
theorem dX4_kind_17 : decode cX4_kind 17 = .ok (.ifCond .ne 10, 3) := by decide +kernel
theorem dX4_kind_20 : decode cX4_kind 20 = .ok (.aload_n 0, 1) := by decide +kernel
theorem dX4_kind_21 : decode cX4_kind 21 = .ok (.ldc 44, 2) := by decide +kernel
theorem dX4_kind_23 : decode cX4_kind 23 = .ok (.invokevirtual 63, 3) := by decide +kernel
theorem dX4_kind_26 : decode cX4_kind 26 = .ok (.ireturn, 1) := by decide +kernel
theorem dX4_kind_27 : decode cX4_kind 27 = .ok (.aload_n 0, 1) := by decide +kernel
theorem dX4_kind_28 : decode cX4_kind 28 = .ok (.iload_n 1, 1) := by decide +kernel
theorem dX4_kind_29 : decode cX4_kind 29 = .ok (.iconst 0, 1) := by decide +kernel
theorem dX4_kind_30 : decode cX4_kind 30 = .ok (.invokevirtual 55, 3) := by decide +kernel
theorem dX4_kind_33 : decode cX4_kind 33 = .ok (.istore_n 3, 1) := by decide +kernel
theorem dX4_kind_34 : decode cX4_kind 34 = .ok (.iconst 0, 1) := by decide +kernel
theorem dX4_kind_35 : decode cX4_kind 35 = .ok (.istore 4, 2) := by decide +kernel
theorem dX4_kind_37 : decode cX4_kind 37 = .ok (.iconst (-1), 1) := by decide +kernel
theorem dX4_kind_38 : decode cX4_kind 38 = .ok (.istore 5, 2) := by decide +kernel
theorem dX4_kind_40 : decode cX4_kind 40 = .ok (.iconst 0, 1) := by decide +kernel
theorem dX4_kind_41 : decode cX4_kind 41 = .ok (.istore 6, 2) := by decide +kernel
theorem dX4_kind_43 : decode cX4_kind 43 = .ok (.iload 6, 2) := by decide +kernel
theorem dX4_kind_45 : decode cX4_kind 45 = .ok (.iconst 5, 1) := by decide +kernel
theorem dX4_kind_46 : decode cX4_kind 46 = .ok (.if_icmp .gt 66, 3) := by decide +kernel
theorem dX4_kind_49 : decode cX4_kind 49 = .ok (.aload_n 0, 1) := by decide +kernel
theorem dX4_kind_50 : decode cX4_kind 50 = .ok (.getfield 7, 3) := by decide +kernel
theorem dX4_kind_53 : decode cX4_kind 53 = .ok (.iload_n 1, 1) := by decide +kernel
theorem dX4_kind_54 : decode cX4_kind 54 = .ok (.iconst 0, 1) := by decide +kernel
theorem dX4_kind_55 : decode cX4_kind 55 = .ok (.invokestatic 45, 3) := by decide +kernel
theorem dX4_kind_58 : decode cX4_kind 58 = .ok (.iload 6, 2) := by decide +kernel
theorem dX4_kind_60 : decode cX4_kind 60 = .ok (.iastore, 1) := by decide +kernel
theorem dX4_kind_61 : decode cX4_kind 61 = .ok (.aload_n 0, 1) := by decide +kernel
theorem dX4_kind_62 : decode cX4_kind 62 = .ok (.iload_n 1, 1) := by decide +kernel
theorem dX4_kind_63 : decode cX4_kind 63 = .ok (.bipush 8, 2) := by decide +kernel
theorem dX4_kind_65 : decode cX4_kind 65 = .ok (.invokestatic 45, 3) := by decide +kernel
theorem dX4_kind_68 : decode cX4_kind 68 = .ok (.iload_n 2, 1) := by decide +kernel
theorem dX4_kind_69 : decode cX4_kind 69 = .ok (.invokevirtual 183, 3) := by decide +kernel
theorem dX4_kind_72 : decode cX4_kind 72 = .ok (.istore 7, 2) := by decide +kernel
theorem dX4_kind_74 : decode cX4_kind 74 = .ok (.iload 7, 2) := by decide +kernel
theorem dX4_kind_76 : decode cX4_kind 76 = .ok (.iload 5, 2) := by decide +kernel
theorem dX4_kind_78 : decode cX4_kind 78 = .ok (.if_icmp .le 8, 3) := by decide +kernel
theorem dX4_kind_81 : decode cX4_kind 81 = .ok (.iload 6, 2) := by decide +kernel
theorem dX4_kind_83 : decode cX4_kind 83 = .ok (.goto 5, 3) := by decide +kernel
theorem dX4_kind_86 : decode cX4_kind 86 = .ok (.iload 4, 2) := by decide +kernel
theorem dX4_kind_88 : decode cX4_kind 88 = .ok (.istore 4, 2) := by decide +kernel
theorem dX4_kind_90 : decode cX4_kind 90 = .ok (.iload 7, 2) := by decide +kernel
theorem dX4_kind_92 : decode cX4_kind 92 = .ok (.iload 5, 2) := by decide +kernel
theorem dX4_kind_94 : decode cX4_kind 94 = .ok (.if_icmp .le 8, 3) := by decide +kernel
theorem dX4_kind_97 : decode cX4_kind 97 = .ok (.iload 7, 2) := by decide +kernel
theorem dX4_kind_99 : decode cX4_kind 99 = .ok (.goto 5, 3) := by decide +kernel
theorem dX4_kind_102 : decode cX4_kind 102 = .ok (.iload 5, 2) := by decide +kernel
theorem dX4_kind_104 : decode cX4_kind 104 = .ok (.istore 5, 2) := by decide +kernel
theorem dX4_kind_106 : decode cX4_kind 106 = .ok (.iinc 6 1, 3) := by decide +kernel
theorem dX4_kind_109 : decode cX4_kind 109 = .ok (.goto (-66), 3) := by decide +kernel
theorem dX4_kind_112 : decode cX4_kind 112 = .ok (.aload_n 0, 1) := by decide +kernel
theorem dX4_kind_113 : decode cX4_kind 113 = .ok (.getfield 7, 3) := by decide +kernel
theorem dX4_kind_116 : decode cX4_kind 116 = .ok (.iload_n 1, 1) := by decide +kernel
theorem dX4_kind_117 : decode cX4_kind 117 = .ok (.iconst 0, 1) := by decide +kernel
theorem dX4_kind_118 : decode cX4_kind 118 = .ok (.invokestatic 45, 3) := by decide +kernel
theorem dX4_kind_121 : decode cX4_kind 121 = .ok (.iload_n 3, 1) := by decide +kernel
theorem dX4_kind_122 : decode cX4_kind 122 = .ok (.iastore, 1) := by decide +kernel
theorem dX4_kind_123 : decode cX4_kind 123 = .ok (.iload 4, 2) := by decide +kernel
theorem dX4_kind_125 : decode cX4_kind 125 = .ok (.ireturn, 1) := by decide +kernel
theorem dX4_place_0 : decode cX4_place 0 = .ok (.aload_n 0, 1) := by decide +kernel
theorem dX4_place_1 : decode cX4_place 1 = .ok (.iload_n 1, 1) := by decide +kernel
theorem dX4_place_2 : decode cX4_place 2 = .ok (.invokevirtual 128, 3) := by decide +kernel
theorem dX4_place_5 : decode cX4_place 5 = .ok (.ifCond .eq 25, 3) := by decide +kernel
theorem dX4_place_8 : decode cX4_place 8 = .ok (.iload_n 2, 1) := by decide +kernel
theorem dX4_place_9 : decode cX4_place 9 = .ok (.invokestatic 195, 3) := by decide +kernel
theorem dX4_place_12 : decode cX4_place 12 = .ok (.ifCond .eq 18, 3) := by decide +kernel
theorem dX4_place_15 : decode cX4_place 15 = .ok (.aload_n 0, 1) := by decide +kernel
theorem dX4_place_16 : decode cX4_place 16 = .ok (.iload_n 1, 1) := by decide +kernel
theorem dX4_place_17 : decode cX4_place 17 = .ok (.iconst 2, 1) := by decide +kernel
theorem dX4_place_18 : decode cX4_place 18 = .ok (.invokestatic 45, 3) := by decide +kernel
theorem dX4_place_21 : decode cX4_place 21 = .ok (.bipush 19, 2) := by decide +kernel
theorem dX4_place_23 : decode cX4_place 23 = .ok (.iload_n 2, 1) := by decide +kernel
theorem dX4_place_24 : decode cX4_place 24 = .ok (.invokevirtual 200, 3) := by decide +kernel
theorem dX4_place_27 : decode cX4_place 27 = .ok (.goto 9, 3) := by decide +kernel
theorem dX4_place_30 : decode cX4_place 30 = .ok (.aload_n 0, 1) := by decide +kernel
theorem dX4_place_31 : decode cX4_place 31 = .ok (.ldc 44, 2) := by decide +kernel
theorem dX4_place_33 : decode cX4_place 33 = .ok (.invokevirtual 63, 3) := by decide +kernel
theorem dX4_place_36 : decode cX4_place 36 = .ok (.ireturn, 1) := by decide +kernel
theorem dX4_isClash_0 : decode cX4_isClash 0 = .ok (.iconst 0, 1) := by decide +kernel
theorem dX4_isClash_1 : decode cX4_isClash 1 = .ok (.istore 4, 2) := by decide +kernel
theorem dX4_isClash_3 : decode cX4_isClash 3 = .ok (.iconst 0, 1) := by decide +kernel
theorem dX4_isClash_4 : decode cX4_isClash 4 = .ok (.istore 5, 2) := by decide +kernel
theorem dX4_isClash_6 : decode cX4_isClash 6 = .ok (.iconst 0, 1) := by decide +kernel
theorem dX4_isClash_7 : decode cX4_isClash 7 = .ok (.istore 6, 2) := by decide +kernel
theorem dX4_isClash_9 : decode cX4_isClash 9 = .ok (.iconst 0, 1) := by decide +kernel
theorem dX4_isClash_10 : decode cX4_isClash 10 = .ok (.istore 7, 2) := by decide +kernel
theorem dX4_isClash_12 : decode cX4_isClash 12 = .ok (.iload 7, 2) := by decide +kernel
theorem dX4_isClash_14 : decode cX4_isClash 14 = .ok (.iload_n 3, 1) := by decide +kernel
theorem dX4_isClash_15 : decode cX4_isClash 15 = .ok (.if_icmp .gt 87, 3) := by decide +kernel
theorem dX4_isClash_18 : decode cX4_isClash 18 = .ok (.aload_n 0, 1) := by decide +kernel
theorem dX4_isClash_19 : decode cX4_isClash 19 = .ok (.getfield 25, 3) := by decide +kernel
theorem dX4_isClash_22 : decode cX4_isClash 22 = .ok (.iload 7, 2) := by decide +kernel
theorem dX4_isClash_24 : decode cX4_isClash 24 = .ok (.iaload, 1) := by decide +kernel
theorem dX4_isClash_25 : decode cX4_isClash 25 = .ok (.iload_n 1, 1) := by decide +kernel
theorem dX4_isClash_26 : decode cX4_isClash 26 = .ok (.ishr, 1) := by decide +kernel
theorem dX4_isClash_27 : decode cX4_isClash 27 = .ok (.iconst 1, 1) := by decide +kernel
theorem dX4_isClash_28 : decode cX4_isClash 28 = .ok (.iand, 1) := by decide +kernel
theorem dX4_isClash_29 : decode cX4_isClash 29 = .ok (.iconst 1, 1) := by decide +kernel
theorem dX4_isClash_30 : decode cX4_isClash 30 = .ok (.if_icmp .ne 7, 3) := by decide +kernel
theorem dX4_isClash_33 : decode cX4_isClash 33 = .ok (.iconst 1, 1) := by decide +kernel
theorem dX4_isClash_34 : decode cX4_isClash 34 = .ok (.goto 4, 3) := by decide +kernel
theorem dX4_isClash_37 : decode cX4_isClash 37 = .ok (.iconst 0, 1) := by decide +kernel
theorem dX4_isClash_38 : decode cX4_isClash 38 = .ok (.istore 8, 2) := by decide +kernel
theorem dX4_isClash_40 : decode cX4_isClash 40 = .ok (.aload_n 0, 1) := by decide +kernel
theorem dX4_isClash_41 : decode cX4_isClash 41 = .ok (.getfield 25, 3) := by decide +kernel
theorem dX4_isClash_44 : decode cX4_isClash 44 = .ok (.iload 7, 2) := by decide +kernel
theorem dX4_isClash_46 : decode cX4_isClash 46 = .ok (.iaload, 1) := by decide +kernel
theorem dX4_isClash_47 : decode cX4_isClash 47 = .ok (.iload_n 2, 1) := by decide +kernel
theorem dX4_isClash_48 : decode cX4_isClash 48 = .ok (.ishr, 1) := by decide +kernel
theorem dX4_isClash_49 : decode cX4_isClash 49 = .ok (.iconst 1, 1) := by decide +kernel
theorem dX4_isClash_50 : decode cX4_isClash 50 = .ok (.iand, 1) := by decide +kernel
theorem dX4_isClash_51 : decode cX4_isClash 51 = .ok (.iconst 1, 1) := by decide +kernel
theorem dX4_isClash_52 : decode cX4_isClash 52 = .ok (.if_icmp .ne 7, 3) := by decide +kernel
theorem dX4_isClash_55 : decode cX4_isClash 55 = .ok (.iconst 1, 1) := by decide +kernel
theorem dX4_isClash_56 : decode cX4_isClash 56 = .ok (.goto 4, 3) := by decide +kernel
theorem dX4_isClash_59 : decode cX4_isClash 59 = .ok (.iconst 0, 1) := by decide +kernel
theorem dX4_isClash_60 : decode cX4_isClash 60 = .ok (.istore 9, 2) := by decide +kernel
theorem dX4_isClash_62 : decode cX4_isClash 62 = .ok (.iload 4, 2) := by decide +kernel
theorem dX4_isClash_64 : decode cX4_isClash 64 = .ok (.iload 8, 2) := by decide +kernel
theorem dX4_isClash_66 : decode cX4_isClash 66 = .ok (.ior, 1) := by decide +kernel
theorem dX4_isClash_67 : decode cX4_isClash 67 = .ok (.istore 4, 2) := by decide +kernel
theorem dX4_isClash_69 : decode cX4_isClash 69 = .ok (.iload 5, 2) := by decide +kernel
theorem dX4_isClash_71 : decode cX4_isClash 71 = .ok (.iload 9, 2) := by decide +kernel
theorem dX4_isClash_73 : decode cX4_isClash 73 = .ok (.ior, 1) := by decide +kernel
theorem dX4_isClash_74 : decode cX4_isClash 74 = .ok (.istore 5, 2) := by decide +kernel
theorem dX4_isClash_76 : decode cX4_isClash 76 = .ok (.iload 6, 2) := by decide +kernel
theorem dX4_isClash_78 : decode cX4_isClash 78 = .ok (.iload 8, 2) := by decide +kernel
theorem dX4_isClash_80 : decode cX4_isClash 80 = .ok (.ifCond .eq 12, 3) := by decide +kernel
theorem dX4_isClash_83 : decode cX4_isClash 83 = .ok (.iload 9, 2) := by decide +kernel
theorem dX4_isClash_85 : decode cX4_isClash 85 = .ok (.ifCond .eq 7, 3) := by decide +kernel
theorem dX4_isClash_88 : decode cX4_isClash 88 = .ok (.iconst 1, 1) := by decide +kernel
theorem dX4_isClash_89 : decode cX4_isClash 89 = .ok (.goto 4, 3) := by decide +kernel
theorem dX4_isClash_92 : decode cX4_isClash 92 = .ok (.iconst 0, 1) := by decide +kernel
theorem dX4_isClash_93 : decode cX4_isClash 93 = .ok (.ior, 1) := by decide +kernel
theorem dX4_isClash_94 : decode cX4_isClash 94 = .ok (.istore 6, 2) := by decide +kernel
theorem dX4_isClash_96 : decode cX4_isClash 96 = .ok (.iinc 7 1, 3) := by decide +kernel
theorem dX4_isClash_99 : decode cX4_isClash 99 = .ok (.goto (-87), 3) := by decide +kernel
theorem dX4_isClash_102 : decode cX4_isClash 102 = .ok (.iload 4, 2) := by decide +kernel
theorem dX4_isClash_104 : decode cX4_isClash 104 = .ok (.ifCond .eq 17, 3) := by decide +kernel
theorem dX4_isClash_107 : decode cX4_isClash 107 = .ok (.iload 5, 2) := by decide +kernel
theorem dX4_isClash_109 : decode cX4_isClash 109 = .ok (.ifCond .eq 12, 3) := by decide +kernel
theorem dX4_isClash_112 : decode cX4_isClash 112 = .ok (.iload 6, 2) := by decide +kernel
theorem dX4_isClash_114 : decode cX4_isClash 114 = .ok (.ifCond .ne 7, 3) := by decide +kernel
theorem dX4_isClash_117 : decode cX4_isClash 117 = .ok (.iconst 1, 1) := by decide +kernel
theorem dX4_isClash_118 : decode cX4_isClash 118 = .ok (.goto 4, 3) := by decide +kernel
theorem dX4_isClash_121 : decode cX4_isClash 121 = .ok (.iconst 0, 1) := by decide +kernel
theorem dX4_isClash_122 : decode cX4_isClash 122 = .ok (.ireturn, 1) := by decide +kernel
theorem dX4_clash_0 : decode cX4_clash 0 = .ok (.iload_n 1, 1) := by decide +kernel
theorem dX4_clash_1 : decode cX4_clash 1 = .ok (.i2l, 1) := by decide +kernel
theorem dX4_clash_2 : decode cX4_clash 2 = .ok (.lconst 1, 1) := by decide +kernel
theorem dX4_clash_3 : decode cX4_clash 3 = .ok (.ldc2_w 198, 3) := by decide +kernel
theorem dX4_clash_6 : decode cX4_clash 6 = .ok (.invokestatic 49, 3) := by decide +kernel
theorem dX4_clash_9 : decode cX4_clash 9 = .ok (.ifCond .ne 10, 3) := by decide +kernel
theorem dX4_clash_12 : decode cX4_clash 12 = .ok (.aload_n 0, 1) := by decide +kernel
theorem dX4_clash_13 : decode cX4_clash 13 = .ok (.ldc 44, 2) := by decide +kernel
theorem dX4_clash_15 : decode cX4_clash 15 = .ok (.invokevirtual 63, 3) := by decide +kernel
theorem dX4_clash_18 : decode cX4_clash 18 = .ok (.ireturn, 1) := by decide +kernel
theorem dX4_clash_19 : decode cX4_clash 19 = .ok (.aload_n 0, 1) := by decide +kernel
theorem dX4_clash_20 : decode cX4_clash 20 = .ok (.invokevirtual 171, 3) := by decide +kernel
theorem dX4_clash_23 : decode cX4_clash 23 = .ok (.iconst 0, 1) := by decide +kernel
theorem dX4_clash_24 : decode cX4_clash 24 = .ok (.istore_n 2, 1) := by decide +kernel
theorem dX4_clash_25 : decode cX4_clash 25 = .ok (.iload_n 2, 1) := by decide +kernel
theorem dX4_clash_26 : decode cX4_clash 26 = .ok (.iload_n 1, 1) := by decide +kernel
theorem dX4_clash_27 : decode cX4_clash 27 = .ok (.if_icmp .gt 23, 3) := by decide +kernel
theorem dX4_clash_30 : decode cX4_clash 30 = .ok (.aload_n 0, 1) := by decide +kernel
theorem dX4_clash_31 : decode cX4_clash 31 = .ok (.getfield 25, 3) := by decide +kernel
theorem dX4_clash_34 : decode cX4_clash 34 = .ok (.iload_n 2, 1) := by decide +kernel
theorem dX4_clash_35 : decode cX4_clash 35 = .ok (.aload_n 0, 1) := by decide +kernel
theorem dX4_clash_36 : decode cX4_clash 36 = .ok (.invokevirtual 101, 3) := by decide +kernel
theorem dX4_clash_39 : decode cX4_clash 39 = .ok (.iastore, 1) := by decide +kernel
theorem dX4_clash_40 : decode cX4_clash 40 = .ok (.aload_n 0, 1) := by decide +kernel
theorem dX4_clash_41 : decode cX4_clash 41 = .ok (.invokevirtual 159, 3) := by decide +kernel
theorem dX4_clash_44 : decode cX4_clash 44 = .ok (.iinc 2 1, 3) := by decide +kernel
theorem dX4_clash_47 : decode cX4_clash 47 = .ok (.goto (-22), 3) := by decide +kernel
theorem dX4_clash_50 : decode cX4_clash 50 = .ok (.aload_n 0, 1) := by decide +kernel
theorem dX4_clash_51 : decode cX4_clash 51 = .ok (.iconst (-1), 1) := by decide +kernel
theorem dX4_clash_52 : decode cX4_clash 52 = .ok (.invokevirtual 174, 3) := by decide +kernel
theorem dX4_clash_55 : decode cX4_clash 55 = .ok (.istore_n 2, 1) := by decide +kernel
theorem dX4_clash_56 : decode cX4_clash 56 = .ok (.aload_n 0, 1) := by decide +kernel
theorem dX4_clash_57 : decode cX4_clash 57 = .ok (.getfield 7, 3) := by decide +kernel
theorem dX4_clash_60 : decode cX4_clash 60 = .ok (.iconst 1, 1) := by decide +kernel
theorem dX4_clash_61 : decode cX4_clash 61 = .ok (.iaload, 1) := by decide +kernel
theorem dX4_clash_62 : decode cX4_clash 62 = .ok (.iconst 1, 1) := by decide +kernel
theorem dX4_clash_63 : decode cX4_clash 63 = .ok (.isub, 1) := by decide +kernel
theorem dX4_clash_64 : decode cX4_clash 64 = .ok (.istore_n 3, 1) := by decide +kernel
theorem dX4_clash_65 : decode cX4_clash 65 = .ok (.iload_n 3, 1) := by decide +kernel
theorem dX4_clash_66 : decode cX4_clash 66 = .ok (.ifCond .lt 54, 3) := by decide +kernel
theorem dX4_clash_69 : decode cX4_clash 69 = .ok (.aload_n 0, 1) := by decide +kernel
theorem dX4_clash_70 : decode cX4_clash 70 = .ok (.getfield 7, 3) := by decide +kernel
theorem dX4_clash_73 : decode cX4_clash 73 = .ok (.iconst 1, 1) := by decide +kernel
theorem dX4_clash_74 : decode cX4_clash 74 = .ok (.iaload, 1) := by decide +kernel
theorem dX4_clash_75 : decode cX4_clash 75 = .ok (.iconst 1, 1) := by decide +kernel
theorem dX4_clash_76 : decode cX4_clash 76 = .ok (.isub, 1) := by decide +kernel
theorem dX4_clash_77 : decode cX4_clash 77 = .ok (.istore 4, 2) := by decide +kernel
theorem dX4_clash_79 : decode cX4_clash 79 = .ok (.iload 4, 2) := by decide +kernel
theorem dX4_clash_81 : decode cX4_clash 81 = .ok (.iload_n 3, 1) := by decide +kernel
theorem dX4_clash_82 : decode cX4_clash 82 = .ok (.if_icmp .le 32, 3) := by decide +kernel
theorem dX4_clash_85 : decode cX4_clash 85 = .ok (.aload_n 0, 1) := by decide +kernel
theorem dX4_clash_86 : decode cX4_clash 86 = .ok (.iload_n 3, 1) := by decide +kernel
theorem dX4_clash_87 : decode cX4_clash 87 = .ok (.iload 4, 2) := by decide +kernel
theorem dX4_clash_89 : decode cX4_clash 89 = .ok (.iload_n 1, 1) := by decide +kernel
theorem dX4_clash_90 : decode cX4_clash 90 = .ok (.invokevirtual 203, 3) := by decide +kernel
theorem dX4_clash_93 : decode cX4_clash 93 = .ok (.ifCond .eq 13, 3) := by decide +kernel
theorem dX4_clash_96 : decode cX4_clash 96 = .ok (.bipush 10, 2) := by decide +kernel
theorem dX4_clash_98 : decode cX4_clash 98 = .ok (.iload_n 3, 1) := by decide +kernel
theorem dX4_clash_99 : decode cX4_clash 99 = .ok (.imul, 1) := by decide +kernel
theorem dX4_clash_100 : decode cX4_clash 100 = .ok (.iload 4, 2) := by decide +kernel
theorem dX4_clash_102 : decode cX4_clash 102 = .ok (.iadd, 1) := by decide +kernel
theorem dX4_clash_103 : decode cX4_clash 103 = .ok (.goto 4, 3) := by decide +kernel
theorem dX4_clash_106 : decode cX4_clash 106 = .ok (.iload_n 2, 1) := by decide +kernel
theorem dX4_clash_107 : decode cX4_clash 107 = .ok (.istore_n 2, 1) := by decide +kernel
theorem dX4_clash_108 : decode cX4_clash 108 = .ok (.iinc 4 (-1), 3) := by decide +kernel
theorem dX4_clash_111 : decode cX4_clash 111 = .ok (.goto (-32), 3) := by decide +kernel
theorem dX4_clash_114 : decode cX4_clash 114 = .ok (.iinc 3 (-1), 3) := by decide +kernel
theorem dX4_clash_117 : decode cX4_clash 117 = .ok (.goto (-52), 3) := by decide +kernel
theorem dX4_clash_120 : decode cX4_clash 120 = .ok (.iload_n 2, 1) := by decide +kernel
theorem dX4_clash_121 : decode cX4_clash 121 = .ok (.ifCond .ge 12, 3) := by decide +kernel
theorem dX4_clash_124 : decode cX4_clash 124 = .ok (.aload_n 0, 1) := by decide +kernel
theorem dX4_clash_125 : decode cX4_clash 125 = .ok (.ldc 186, 2) := by decide +kernel
theorem dX4_clash_127 : decode cX4_clash 127 = .ok (.invokevirtual 63, 3) := by decide +kernel
theorem dX4_clash_130 : decode cX4_clash 130 = .ok (.goto 4, 3) := by decide +kernel
theorem dX4_clash_133 : decode cX4_clash 133 = .ok (.iload_n 2, 1) := by decide +kernel
theorem dX4_clash_134 : decode cX4_clash 134 = .ok (.ireturn, 1) := by decide +kernel
theorem dX4_want_0 : decode cX4_want 0 = .ok (.aload_n 0, 1) := by decide +kernel
theorem dX4_want_1 : decode cX4_want 1 = .ok (.iload_n 1, 1) := by decide +kernel
theorem dX4_want_2 : decode cX4_want 2 = .ok (.invokevirtual 128, 3) := by decide +kernel
theorem dX4_want_5 : decode cX4_want 5 = .ok (.ifCond .eq 24, 3) := by decide +kernel
theorem dX4_want_8 : decode cX4_want 8 = .ok (.iload_n 2, 1) := by decide +kernel
theorem dX4_want_9 : decode cX4_want 9 = .ok (.invokestatic 195, 3) := by decide +kernel
theorem dX4_want_12 : decode cX4_want 12 = .ok (.ifCond .eq 17, 3) := by decide +kernel
theorem dX4_want_15 : decode cX4_want 15 = .ok (.aload_n 0, 1) := by decide +kernel
theorem dX4_want_16 : decode cX4_want 16 = .ok (.iload_n 1, 1) := by decide +kernel
theorem dX4_want_17 : decode cX4_want 17 = .ok (.iconst 5, 1) := by decide +kernel
theorem dX4_want_18 : decode cX4_want 18 = .ok (.invokestatic 45, 3) := by decide +kernel
theorem dX4_want_21 : decode cX4_want 21 = .ok (.iconst 4, 1) := by decide +kernel
theorem dX4_want_22 : decode cX4_want 22 = .ok (.iload_n 2, 1) := by decide +kernel
theorem dX4_want_23 : decode cX4_want 23 = .ok (.invokevirtual 200, 3) := by decide +kernel
theorem dX4_want_26 : decode cX4_want 26 = .ok (.goto 9, 3) := by decide +kernel
theorem dX4_want_29 : decode cX4_want 29 = .ok (.aload_n 0, 1) := by decide +kernel
theorem dX4_want_30 : decode cX4_want 30 = .ok (.ldc 44, 2) := by decide +kernel
theorem dX4_want_32 : decode cX4_want 32 = .ok (.invokevirtual 63, 3) := by decide +kernel
theorem dX4_want_35 : decode cX4_want 35 = .ok (.ireturn, 1) := by decide +kernel
theorem dX4_nose_0 : decode cX4_nose 0 = .ok (.aload_n 0, 1) := by decide +kernel
theorem dX4_nose_1 : decode cX4_nose 1 = .ok (.iload_n 1, 1) := by decide +kernel
theorem dX4_nose_2 : decode cX4_nose 2 = .ok (.invokevirtual 128, 3) := by decide +kernel
theorem dX4_nose_5 : decode cX4_nose 5 = .ok (.ifCond .eq 15, 3) := by decide +kernel
theorem dX4_nose_8 : decode cX4_nose 8 = .ok (.iload_n 2, 1) := by decide +kernel
theorem dX4_nose_9 : decode cX4_nose 9 = .ok (.i2l, 1) := by decide +kernel
theorem dX4_nose_10 : decode cX4_nose 10 = .ok (.lconst 0, 1) := by decide +kernel
theorem dX4_nose_11 : decode cX4_nose 11 = .ok (.ldc2_w 193, 3) := by decide +kernel
theorem dX4_nose_14 : decode cX4_nose 14 = .ok (.invokestatic 49, 3) := by decide +kernel
theorem dX4_nose_17 : decode cX4_nose 17 = .ok (.ifCond .ne 10, 3) := by decide +kernel
theorem dX4_nose_20 : decode cX4_nose 20 = .ok (.aload_n 0, 1) := by decide +kernel
theorem dX4_nose_21 : decode cX4_nose 21 = .ok (.ldc 44, 2) := by decide +kernel
theorem dX4_nose_23 : decode cX4_nose 23 = .ok (.invokevirtual 63, 3) := by decide +kernel
theorem dX4_nose_26 : decode cX4_nose 26 = .ok (.ireturn, 1) := by decide +kernel
theorem dX4_nose_27 : decode cX4_nose 27 = .ok (.iload_n 1, 1) := by decide +kernel
theorem dX4_nose_28 : decode cX4_nose 28 = .ok (.iconst 3, 1) := by decide +kernel
theorem dX4_nose_29 : decode cX4_nose 29 = .ok (.invokestatic 45, 3) := by decide +kernel
theorem dX4_nose_32 : decode cX4_nose 32 = .ok (.istore_n 3, 1) := by decide +kernel
theorem dX4_nose_33 : decode cX4_nose 33 = .ok (.aload_n 0, 1) := by decide +kernel
theorem dX4_nose_34 : decode cX4_nose 34 = .ok (.getfield 7, 3) := by decide +kernel
theorem dX4_nose_37 : decode cX4_nose 37 = .ok (.iload_n 3, 1) := by decide +kernel
theorem dX4_nose_38 : decode cX4_nose 38 = .ok (.iaload, 1) := by decide +kernel
theorem dX4_nose_39 : decode cX4_nose 39 = .ok (.istore 4, 2) := by decide +kernel
theorem dX4_nose_41 : decode cX4_nose 41 = .ok (.iconst (-1), 1) := by decide +kernel
theorem dX4_nose_42 : decode cX4_nose 42 = .ok (.istore 5, 2) := by decide +kernel
theorem dX4_nose_44 : decode cX4_nose 44 = .ok (.bipush 99, 2) := by decide +kernel
theorem dX4_nose_46 : decode cX4_nose 46 = .ok (.istore 6, 2) := by decide +kernel
theorem dX4_nose_48 : decode cX4_nose 48 = .ok (.iload 6, 2) := by decide +kernel
theorem dX4_nose_50 : decode cX4_nose 50 = .ok (.ifCond .lt 41, 3) := by decide +kernel
theorem dX4_nose_53 : decode cX4_nose 53 = .ok (.iload 5, 2) := by decide +kernel
theorem dX4_nose_55 : decode cX4_nose 55 = .ok (.ifCond .ge 36, 3) := by decide +kernel
theorem dX4_nose_58 : decode cX4_nose 58 = .ok (.aload_n 0, 1) := by decide +kernel
theorem dX4_nose_59 : decode cX4_nose 59 = .ok (.getfield 7, 3) := by decide +kernel
theorem dX4_nose_62 : decode cX4_nose 62 = .ok (.iload_n 3, 1) := by decide +kernel
theorem dX4_nose_63 : decode cX4_nose 63 = .ok (.iload 6, 2) := by decide +kernel
theorem dX4_nose_65 : decode cX4_nose 65 = .ok (.iastore, 1) := by decide +kernel
theorem dX4_nose_66 : decode cX4_nose 66 = .ok (.aload_n 0, 1) := by decide +kernel
theorem dX4_nose_67 : decode cX4_nose 67 = .ok (.iload_n 3, 1) := by decide +kernel
theorem dX4_nose_68 : decode cX4_nose 68 = .ok (.iload_n 2, 1) := by decide +kernel
theorem dX4_nose_69 : decode cX4_nose 69 = .ok (.invokevirtual 183, 3) := by decide +kernel
theorem dX4_nose_72 : decode cX4_nose 72 = .ok (.bipush 10, 2) := by decide +kernel
theorem dX4_nose_74 : decode cX4_nose 74 = .ok (.if_icmp .gt 8, 3) := by decide +kernel
theorem dX4_nose_77 : decode cX4_nose 77 = .ok (.iload 6, 2) := by decide +kernel
theorem dX4_nose_79 : decode cX4_nose 79 = .ok (.goto 4, 3) := by decide +kernel
theorem dX4_nose_82 : decode cX4_nose 82 = .ok (.iconst (-1), 1) := by decide +kernel
theorem dX4_nose_83 : decode cX4_nose 83 = .ok (.istore 5, 2) := by decide +kernel
theorem dX4_nose_85 : decode cX4_nose 85 = .ok (.iinc 6 (-1), 3) := by decide +kernel
theorem dX4_nose_88 : decode cX4_nose 88 = .ok (.goto (-40), 3) := by decide +kernel
theorem dX4_nose_91 : decode cX4_nose 91 = .ok (.aload_n 0, 1) := by decide +kernel
theorem dX4_nose_92 : decode cX4_nose 92 = .ok (.getfield 7, 3) := by decide +kernel
theorem dX4_nose_95 : decode cX4_nose 95 = .ok (.iload_n 3, 1) := by decide +kernel
theorem dX4_nose_96 : decode cX4_nose 96 = .ok (.iload 4, 2) := by decide +kernel
theorem dX4_nose_98 : decode cX4_nose 98 = .ok (.iastore, 1) := by decide +kernel
theorem dX4_nose_99 : decode cX4_nose 99 = .ok (.iload 5, 2) := by decide +kernel
theorem dX4_nose_101 : decode cX4_nose 101 = .ok (.ifCond .ge 12, 3) := by decide +kernel
theorem dX4_nose_104 : decode cX4_nose 104 = .ok (.aload_n 0, 1) := by decide +kernel
theorem dX4_nose_105 : decode cX4_nose 105 = .ok (.ldc 186, 2) := by decide +kernel
theorem dX4_nose_107 : decode cX4_nose 107 = .ok (.invokevirtual 63, 3) := by decide +kernel
theorem dX4_nose_110 : decode cX4_nose 110 = .ok (.goto 5, 3) := by decide +kernel
theorem dX4_nose_113 : decode cX4_nose 113 = .ok (.iload 5, 2) := by decide +kernel
theorem dX4_nose_115 : decode cX4_nose 115 = .ok (.ireturn, 1) := by decide +kernel
theorem dX4_feed_0 : decode cX4_feed 0 = .ok (.iload_n 2, 1) := by decide +kernel
theorem dX4_feed_1 : decode cX4_feed 1 = .ok (.i2l, 1) := by decide +kernel
theorem dX4_feed_2 : decode cX4_feed 2 = .ok (.lconst 1, 1) := by decide +kernel
theorem dX4_feed_3 : decode cX4_feed 3 = .ok (.ldc2_w 138, 3) := by decide +kernel
theorem dX4_feed_6 : decode cX4_feed 6 = .ok (.invokestatic 49, 3) := by decide +kernel
theorem dX4_feed_9 : decode cX4_feed 9 = .ok (.ifCond .ne 10, 3) := by decide +kernel
theorem dX4_feed_12 : decode cX4_feed 12 = .ok (.aload_n 0, 1) := by decide +kernel
theorem dX4_feed_13 : decode cX4_feed 13 = .ok (.ldc 44, 2) := by decide +kernel
theorem dX4_feed_15 : decode cX4_feed 15 = .ok (.invokevirtual 63, 3) := by decide +kernel
theorem dX4_feed_18 : decode cX4_feed 18 = .ok (.ireturn, 1) := by decide +kernel
theorem dX4_feed_19 : decode cX4_feed 19 = .ok (.aload_n 0, 1) := by decide +kernel
theorem dX4_feed_20 : decode cX4_feed 20 = .ok (.getfield 207, 3) := by decide +kernel
theorem dX4_feed_23 : decode cX4_feed 23 = .ok (.iload_n 2, 1) := by decide +kernel
theorem dX4_feed_24 : decode cX4_feed 24 = .ok (.iadd, 1) := by decide +kernel
theorem dX4_feed_25 : decode cX4_feed 25 = .ok (.bipush 120, 2) := by decide +kernel
theorem dX4_feed_27 : decode cX4_feed 27 = .ok (.if_icmp .le 10, 3) := by decide +kernel
theorem dX4_feed_30 : decode cX4_feed 30 = .ok (.aload_n 0, 1) := by decide +kernel
theorem dX4_feed_31 : decode cX4_feed 31 = .ok (.ldc 123, 2) := by decide +kernel
theorem dX4_feed_33 : decode cX4_feed 33 = .ok (.invokevirtual 63, 3) := by decide +kernel
theorem dX4_feed_36 : decode cX4_feed 36 = .ok (.ireturn, 1) := by decide +kernel
theorem dX4_feed_37 : decode cX4_feed 37 = .ok (.iload_n 2, 1) := by decide +kernel
theorem dX4_feed_38 : decode cX4_feed 38 = .ok (.iconst 1, 1) := by decide +kernel
theorem dX4_feed_39 : decode cX4_feed 39 = .ok (.isub, 1) := by decide +kernel
theorem dX4_feed_40 : decode cX4_feed 40 = .ok (.istore_n 3, 1) := by decide +kernel
theorem dX4_feed_41 : decode cX4_feed 41 = .ok (.iload_n 3, 1) := by decide +kernel
theorem dX4_feed_42 : decode cX4_feed 42 = .ok (.ifCond .lt 38, 3) := by decide +kernel
theorem dX4_feed_45 : decode cX4_feed 45 = .ok (.aload_n 0, 1) := by decide +kernel
theorem dX4_feed_46 : decode cX4_feed 46 = .ok (.getfield 28, 3) := by decide +kernel
theorem dX4_feed_49 : decode cX4_feed 49 = .ok (.aload_n 0, 1) := by decide +kernel
theorem dX4_feed_50 : decode cX4_feed 50 = .ok (.getfield 207, 3) := by decide +kernel
theorem dX4_feed_53 : decode cX4_feed 53 = .ok (.iload_n 1, 1) := by decide +kernel
theorem dX4_feed_54 : decode cX4_feed 54 = .ok (.bipush 8, 2) := by decide +kernel
theorem dX4_feed_56 : decode cX4_feed 56 = .ok (.iload_n 3, 1) := by decide +kernel
theorem dX4_feed_57 : decode cX4_feed 57 = .ok (.imul, 1) := by decide +kernel
theorem dX4_feed_58 : decode cX4_feed 58 = .ok (.ishr, 1) := by decide +kernel
theorem dX4_feed_59 : decode cX4_feed 59 = .ok (.sipush 255, 3) := by decide +kernel
theorem dX4_feed_62 : decode cX4_feed 62 = .ok (.iand, 1) := by decide +kernel
theorem dX4_feed_63 : decode cX4_feed 63 = .ok (.iastore, 1) := by decide +kernel
theorem dX4_feed_64 : decode cX4_feed 64 = .ok (.aload_n 0, 1) := by decide +kernel
theorem dX4_feed_65 : decode cX4_feed 65 = .ok (.dup, 1) := by decide +kernel
theorem dX4_feed_66 : decode cX4_feed 66 = .ok (.getfield 207, 3) := by decide +kernel
theorem dX4_feed_69 : decode cX4_feed 69 = .ok (.iconst 1, 1) := by decide +kernel
theorem dX4_feed_70 : decode cX4_feed 70 = .ok (.iadd, 1) := by decide +kernel
theorem dX4_feed_71 : decode cX4_feed 71 = .ok (.putfield 207, 3) := by decide +kernel
theorem dX4_feed_74 : decode cX4_feed 74 = .ok (.iinc 3 (-1), 3) := by decide +kernel
theorem dX4_feed_77 : decode cX4_feed 77 = .ok (.goto (-36), 3) := by decide +kernel
theorem dX4_feed_80 : decode cX4_feed 80 = .ok (.aload_n 0, 1) := by decide +kernel
theorem dX4_feed_81 : decode cX4_feed 81 = .ok (.getfield 207, 3) := by decide +kernel
theorem dX4_feed_84 : decode cX4_feed 84 = .ok (.ireturn, 1) := by decide +kernel
theorem dX4_wipe_0 : decode cX4_wipe 0 = .ok (.aload_n 0, 1) := by decide +kernel
theorem dX4_wipe_1 : decode cX4_wipe 1 = .ok (.getfield 207, 3) := by decide +kernel
theorem dX4_wipe_4 : decode cX4_wipe 4 = .ok (.istore_n 1, 1) := by decide +kernel
theorem dX4_wipe_5 : decode cX4_wipe 5 = .ok (.aload_n 0, 1) := by decide +kernel
theorem dX4_wipe_6 : decode cX4_wipe 6 = .ok (.iconst 0, 1) := by decide +kernel
theorem dX4_wipe_7 : decode cX4_wipe 7 = .ok (.putfield 207, 3) := by decide +kernel
theorem dX4_wipe_10 : decode cX4_wipe 10 = .ok (.iload_n 1, 1) := by decide +kernel
theorem dX4_wipe_11 : decode cX4_wipe 11 = .ok (.ireturn, 1) := by decide +kernel
theorem dX4_byteAt_0 : decode cX4_byteAt 0 = .ok (.iload_n 1, 1) := by decide +kernel
theorem dX4_byteAt_1 : decode cX4_byteAt 1 = .ok (.aload_n 0, 1) := by decide +kernel
theorem dX4_byteAt_2 : decode cX4_byteAt 2 = .ok (.getfield 207, 3) := by decide +kernel
theorem dX4_byteAt_5 : decode cX4_byteAt 5 = .ok (.if_icmp .ge 12, 3) := by decide +kernel
theorem dX4_byteAt_8 : decode cX4_byteAt 8 = .ok (.aload_n 0, 1) := by decide +kernel
theorem dX4_byteAt_9 : decode cX4_byteAt 9 = .ok (.getfield 28, 3) := by decide +kernel
theorem dX4_byteAt_12 : decode cX4_byteAt 12 = .ok (.iload_n 1, 1) := by decide +kernel
theorem dX4_byteAt_13 : decode cX4_byteAt 13 = .ok (.iaload, 1) := by decide +kernel
theorem dX4_byteAt_14 : decode cX4_byteAt 14 = .ok (.goto 4, 3) := by decide +kernel
theorem dX4_byteAt_17 : decode cX4_byteAt 17 = .ok (.iconst (-1), 1) := by decide +kernel
theorem dX4_byteAt_18 : decode cX4_byteAt 18 = .ok (.ireturn, 1) := by decide +kernel
theorem dX4_isLetter_0 : decode cX4_isLetter 0 = .ok (.iload_n 0, 1) := by decide +kernel
theorem dX4_isLetter_1 : decode cX4_isLetter 1 = .ok (.i2l, 1) := by decide +kernel
theorem dX4_isLetter_2 : decode cX4_isLetter 2 = .ok (.ldc2_w 211, 3) := by decide +kernel
theorem dX4_isLetter_5 : decode cX4_isLetter 5 = .ok (.ldc2_w 213, 3) := by decide +kernel
theorem dX4_isLetter_8 : decode cX4_isLetter 8 = .ok (.invokestatic 49, 3) := by decide +kernel
theorem dX4_isLetter_11 : decode cX4_isLetter 11 = .ok (.ireturn, 1) := by decide +kernel
theorem dX4_isDigit_0 : decode cX4_isDigit 0 = .ok (.iload_n 0, 1) := by decide +kernel
theorem dX4_isDigit_1 : decode cX4_isDigit 1 = .ok (.i2l, 1) := by decide +kernel
theorem dX4_isDigit_2 : decode cX4_isDigit 2 = .ok (.ldc2_w 215, 3) := by decide +kernel
theorem dX4_isDigit_5 : decode cX4_isDigit 5 = .ok (.ldc2_w 217, 3) := by decide +kernel
theorem dX4_isDigit_8 : decode cX4_isDigit 8 = .ok (.invokestatic 49, 3) := by decide +kernel
theorem dX4_isDigit_11 : decode cX4_isDigit 11 = .ok (.ireturn, 1) := by decide +kernel
theorem dX4_token_0 : decode cX4_token 0 = .ok (.aload_n 0, 1) := by decide +kernel
theorem dX4_token_1 : decode cX4_token 1 = .ok (.aload_n 0, 1) := by decide +kernel
theorem dX4_token_2 : decode cX4_token 2 = .ok (.getfield 219, 3) := by decide +kernel
theorem dX4_token_5 : decode cX4_token 5 = .ok (.putfield 222, 3) := by decide +kernel
theorem dX4_token_8 : decode cX4_token 8 = .ok (.aload_n 0, 1) := by decide +kernel
theorem dX4_token_9 : decode cX4_token 9 = .ok (.aload_n 0, 1) := by decide +kernel
theorem dX4_token_10 : decode cX4_token 10 = .ok (.getfield 222, 3) := by decide +kernel
theorem dX4_token_13 : decode cX4_token 13 = .ok (.invokevirtual 225, 3) := by decide +kernel
theorem dX4_token_16 : decode cX4_token 16 = .ok (.bipush 32, 2) := by decide +kernel
theorem dX4_token_18 : decode cX4_token 18 = .ok (.if_icmp .ne 16, 3) := by decide +kernel
theorem dX4_token_21 : decode cX4_token 21 = .ok (.aload_n 0, 1) := by decide +kernel
theorem dX4_token_22 : decode cX4_token 22 = .ok (.dup, 1) := by decide +kernel
theorem dX4_token_23 : decode cX4_token 23 = .ok (.getfield 222, 3) := by decide +kernel
theorem dX4_token_26 : decode cX4_token 26 = .ok (.iconst 1, 1) := by decide +kernel
theorem dX4_token_27 : decode cX4_token 27 = .ok (.iadd, 1) := by decide +kernel
theorem dX4_token_28 : decode cX4_token 28 = .ok (.putfield 222, 3) := by decide +kernel
theorem dX4_token_31 : decode cX4_token 31 = .ok (.goto (-23), 3) := by decide +kernel
theorem dX4_token_34 : decode cX4_token 34 = .ok (.aload_n 0, 1) := by decide +kernel
theorem dX4_token_35 : decode cX4_token 35 = .ok (.aload_n 0, 1) := by decide +kernel
theorem dX4_token_36 : decode cX4_token 36 = .ok (.getfield 222, 3) := by decide +kernel
theorem dX4_token_39 : decode cX4_token 39 = .ok (.invokevirtual 225, 3) := by decide +kernel
theorem dX4_token_42 : decode cX4_token 42 = .ok (.invokestatic 228, 3) := by decide +kernel
theorem dX4_token_45 : decode cX4_token 45 = .ok (.istore_n 1, 1) := by decide +kernel
theorem dX4_token_46 : decode cX4_token 46 = .ok (.aload_n 0, 1) := by decide +kernel
theorem dX4_token_47 : decode cX4_token 47 = .ok (.aload_n 0, 1) := by decide +kernel
theorem dX4_token_48 : decode cX4_token 48 = .ok (.getfield 222, 3) := by decide +kernel
theorem dX4_token_51 : decode cX4_token 51 = .ok (.invokevirtual 225, 3) := by decide +kernel
theorem dX4_token_54 : decode cX4_token 54 = .ok (.invokestatic 231, 3) := by decide +kernel
theorem dX4_token_57 : decode cX4_token 57 = .ok (.istore_n 2, 1) := by decide +kernel
theorem dX4_token_58 : decode cX4_token 58 = .ok (.aload_n 0, 1) := by decide +kernel
theorem dX4_token_59 : decode cX4_token 59 = .ok (.aload_n 0, 1) := by decide +kernel
theorem dX4_token_60 : decode cX4_token 60 = .ok (.getfield 222, 3) := by decide +kernel
theorem dX4_token_63 : decode cX4_token 63 = .ok (.aload_n 0, 1) := by decide +kernel
theorem dX4_token_64 : decode cX4_token 64 = .ok (.getfield 207, 3) := by decide +kernel
theorem dX4_token_67 : decode cX4_token 67 = .ok (.if_icmp .ge 12, 3) := by decide +kernel
theorem dX4_token_70 : decode cX4_token 70 = .ok (.aload_n 0, 1) := by decide +kernel
theorem dX4_token_71 : decode cX4_token 71 = .ok (.getfield 222, 3) := by decide +kernel
theorem dX4_token_74 : decode cX4_token 74 = .ok (.iconst 1, 1) := by decide +kernel
theorem dX4_token_75 : decode cX4_token 75 = .ok (.iadd, 1) := by decide +kernel
theorem dX4_token_76 : decode cX4_token 76 = .ok (.goto 7, 3) := by decide +kernel
theorem dX4_token_79 : decode cX4_token 79 = .ok (.aload_n 0, 1) := by decide +kernel
theorem dX4_token_80 : decode cX4_token 80 = .ok (.getfield 222, 3) := by decide +kernel
theorem dX4_token_83 : decode cX4_token 83 = .ok (.putfield 219, 3) := by decide +kernel
theorem dX4_token_86 : decode cX4_token 86 = .ok (.iload_n 1, 1) := by decide +kernel
theorem dX4_token_87 : decode cX4_token 87 = .ok (.ifCond .eq 17, 3) := by decide +kernel
theorem dX4_token_90 : decode cX4_token 90 = .ok (.aload_n 0, 1) := by decide +kernel
theorem dX4_token_91 : decode cX4_token 91 = .ok (.aload_n 0, 1) := by decide +kernel
theorem dX4_token_92 : decode cX4_token 92 = .ok (.getfield 219, 3) := by decide +kernel
theorem dX4_token_95 : decode cX4_token 95 = .ok (.invokevirtual 225, 3) := by decide +kernel
theorem dX4_token_98 : decode cX4_token 98 = .ok (.invokestatic 228, 3) := by decide +kernel
theorem dX4_token_101 : decode cX4_token 101 = .ok (.ifCond .ne 21, 3) := by decide +kernel
theorem dX4_token_104 : decode cX4_token 104 = .ok (.iload_n 2, 1) := by decide +kernel
theorem dX4_token_105 : decode cX4_token 105 = .ok (.ifCond .eq 30, 3) := by decide +kernel
theorem dX4_token_108 : decode cX4_token 108 = .ok (.aload_n 0, 1) := by decide +kernel
theorem dX4_token_109 : decode cX4_token 109 = .ok (.aload_n 0, 1) := by decide +kernel
theorem dX4_token_110 : decode cX4_token 110 = .ok (.getfield 219, 3) := by decide +kernel
theorem dX4_token_113 : decode cX4_token 113 = .ok (.invokevirtual 225, 3) := by decide +kernel
theorem dX4_token_116 : decode cX4_token 116 = .ok (.invokestatic 231, 3) := by decide +kernel
theorem dX4_token_119 : decode cX4_token 119 = .ok (.ifCond .eq 16, 3) := by decide +kernel
theorem dX4_token_122 : decode cX4_token 122 = .ok (.aload_n 0, 1) := by decide +kernel
theorem dX4_token_123 : decode cX4_token 123 = .ok (.dup, 1) := by decide +kernel
theorem dX4_token_124 : decode cX4_token 124 = .ok (.getfield 219, 3) := by decide +kernel
theorem dX4_token_127 : decode cX4_token 127 = .ok (.iconst 1, 1) := by decide +kernel
theorem dX4_token_128 : decode cX4_token 128 = .ok (.iadd, 1) := by decide +kernel
theorem dX4_token_129 : decode cX4_token 129 = .ok (.putfield 219, 3) := by decide +kernel
theorem dX4_token_132 : decode cX4_token 132 = .ok (.goto (-46), 3) := by decide +kernel
theorem dX4_token_135 : decode cX4_token 135 = .ok (.return_, 1) := by decide +kernel
theorem dX4_must_0 : decode cX4_must 0 = .ok (.aload_n 0, 1) := by decide +kernel
theorem dX4_must_1 : decode cX4_must 1 = .ok (.aload_n 0, 1) := by decide +kernel
theorem dX4_must_2 : decode cX4_must 2 = .ok (.getfield 234, 3) := by decide +kernel
theorem dX4_must_5 : decode cX4_must 5 = .ok (.ifCond .ne 7, 3) := by decide +kernel
theorem dX4_must_8 : decode cX4_must 8 = .ok (.iload_n 1, 1) := by decide +kernel
theorem dX4_must_9 : decode cX4_must 9 = .ok (.ifCond .ne 7, 3) := by decide +kernel
theorem dX4_must_12 : decode cX4_must 12 = .ok (.iconst 1, 1) := by decide +kernel
theorem dX4_must_13 : decode cX4_must 13 = .ok (.goto 4, 3) := by decide +kernel
theorem dX4_must_16 : decode cX4_must 16 = .ok (.iconst 0, 1) := by decide +kernel
theorem dX4_must_17 : decode cX4_must 17 = .ok (.putfield 234, 3) := by decide +kernel
theorem dX4_must_20 : decode cX4_must 20 = .ok (.aload_n 0, 1) := by decide +kernel
theorem dX4_must_21 : decode cX4_must 21 = .ok (.getfield 234, 3) := by decide +kernel
theorem dX4_must_24 : decode cX4_must 24 = .ok (.ifCond .ne 7, 3) := by decide +kernel
theorem dX4_must_27 : decode cX4_must 27 = .ok (.aload_n 0, 1) := by decide +kernel
theorem dX4_must_28 : decode cX4_must 28 = .ok (.invokevirtual 238, 3) := by decide +kernel
theorem dX4_must_31 : decode cX4_must 31 = .ok (.return_, 1) := by decide +kernel
theorem dX4_word_0 : decode cX4_word 0 = .ok (.lconst 0, 1) := by decide +kernel
theorem dX4_word_1 : decode cX4_word 1 = .ok (.lstore_n 1, 1) := by decide +kernel
theorem dX4_word_2 : decode cX4_word 2 = .ok (.aload_n 0, 1) := by decide +kernel
theorem dX4_word_3 : decode cX4_word 3 = .ok (.getfield 222, 3) := by decide +kernel
theorem dX4_word_6 : decode cX4_word 6 = .ok (.istore_n 3, 1) := by decide +kernel
theorem dX4_word_7 : decode cX4_word 7 = .ok (.iload_n 3, 1) := by decide +kernel
theorem dX4_word_8 : decode cX4_word 8 = .ok (.aload_n 0, 1) := by decide +kernel
theorem dX4_word_9 : decode cX4_word 9 = .ok (.getfield 219, 3) := by decide +kernel
theorem dX4_word_12 : decode cX4_word 12 = .ok (.if_icmp .ge 38, 3) := by decide +kernel
theorem dX4_word_15 : decode cX4_word 15 = .ok (.lload_n 1, 1) := by decide +kernel
theorem dX4_word_16 : decode cX4_word 16 = .ok (.ldc2_w 241, 3) := by decide +kernel
theorem dX4_word_19 : decode cX4_word 19 = .ok (.lcmp, 1) := by decide +kernel
theorem dX4_word_20 : decode cX4_word 20 = .ok (.ifCond .le 7, 3) := by decide +kernel
theorem dX4_word_23 : decode cX4_word 23 = .ok (.lload_n 1, 1) := by decide +kernel
theorem dX4_word_24 : decode cX4_word 24 = .ok (.goto 19, 3) := by decide +kernel
theorem dX4_word_27 : decode cX4_word 27 = .ok (.ldc2_w 243, 3) := by decide +kernel
theorem dX4_word_30 : decode cX4_word 30 = .ok (.lload_n 1, 1) := by decide +kernel
theorem dX4_word_31 : decode cX4_word 31 = .ok (.lmul, 1) := by decide +kernel
theorem dX4_word_32 : decode cX4_word 32 = .ok (.aload_n 0, 1) := by decide +kernel
theorem dX4_word_33 : decode cX4_word 33 = .ok (.getfield 28, 3) := by decide +kernel
theorem dX4_word_36 : decode cX4_word 36 = .ok (.iload_n 3, 1) := by decide +kernel
theorem dX4_word_37 : decode cX4_word 37 = .ok (.iaload, 1) := by decide +kernel
theorem dX4_word_38 : decode cX4_word 38 = .ok (.bipush 96, 2) := by decide +kernel
theorem dX4_word_40 : decode cX4_word 40 = .ok (.isub, 1) := by decide +kernel
theorem dX4_word_41 : decode cX4_word 41 = .ok (.i2l, 1) := by decide +kernel
theorem dX4_word_42 : decode cX4_word 42 = .ok (.ladd, 1) := by decide +kernel
theorem dX4_word_43 : decode cX4_word 43 = .ok (.lstore_n 1, 1) := by decide +kernel
theorem dX4_word_44 : decode cX4_word 44 = .ok (.iinc 3 1, 3) := by decide +kernel
theorem dX4_word_47 : decode cX4_word 47 = .ok (.goto (-40), 3) := by decide +kernel
theorem dX4_word_50 : decode cX4_word 50 = .ok (.aload_n 0, 1) := by decide +kernel
theorem dX4_word_51 : decode cX4_word 51 = .ok (.getfield 234, 3) := by decide +kernel
theorem dX4_word_54 : decode cX4_word 54 = .ok (.ifCond .ne 17, 3) := by decide +kernel
theorem dX4_word_57 : decode cX4_word 57 = .ok (.aload_n 0, 1) := by decide +kernel
theorem dX4_word_58 : decode cX4_word 58 = .ok (.aload_n 0, 1) := by decide +kernel
theorem dX4_word_59 : decode cX4_word 59 = .ok (.getfield 222, 3) := by decide +kernel
theorem dX4_word_62 : decode cX4_word 62 = .ok (.invokevirtual 225, 3) := by decide +kernel
theorem dX4_word_65 : decode cX4_word 65 = .ok (.invokestatic 228, 3) := by decide +kernel
theorem dX4_word_68 : decode cX4_word 68 = .ok (.ifCond .ne 7, 3) := by decide +kernel
theorem dX4_word_71 : decode cX4_word 71 = .ok (.lconst 0, 1) := by decide +kernel
theorem dX4_word_72 : decode cX4_word 72 = .ok (.goto 4, 3) := by decide +kernel
theorem dX4_word_75 : decode cX4_word 75 = .ok (.lload_n 1, 1) := by decide +kernel
theorem dX4_word_76 : decode cX4_word 76 = .ok (.lreturn, 1) := by decide +kernel
theorem dX4_number_0 : decode cX4_number 0 = .ok (.aload_n 0, 1) := by decide +kernel
theorem dX4_number_1 : decode cX4_number 1 = .ok (.getfield 234, 3) := by decide +kernel
theorem dX4_number_4 : decode cX4_number 4 = .ok (.ifCond .eq 4, 3) := by decide +kernel
theorem dX4_number_7 : decode cX4_number 7 = .ok (.return_, 1) := by decide +kernel
theorem dX4_number_8 : decode cX4_number 8 = .ok (.aload_n 0, 1) := by decide +kernel
theorem dX4_number_9 : decode cX4_number 9 = .ok (.aload_n 0, 1) := by decide +kernel
theorem dX4_number_10 : decode cX4_number 10 = .ok (.getfield 222, 3) := by decide +kernel
theorem dX4_number_13 : decode cX4_number 13 = .ok (.invokevirtual 225, 3) := by decide +kernel
theorem dX4_number_16 : decode cX4_number 16 = .ok (.invokestatic 231, 3) := by decide +kernel
theorem dX4_number_19 : decode cX4_number 19 = .ok (.istore_n 3, 1) := by decide +kernel
theorem dX4_number_20 : decode cX4_number 20 = .ok (.iconst 0, 1) := by decide +kernel
theorem dX4_number_21 : decode cX4_number 21 = .ok (.istore 4, 2) := by decide +kernel
theorem dX4_number_23 : decode cX4_number 23 = .ok (.aload_n 0, 1) := by decide +kernel
theorem dX4_number_24 : decode cX4_number 24 = .ok (.getfield 222, 3) := by decide +kernel
theorem dX4_number_27 : decode cX4_number 27 = .ok (.istore 5, 2) := by decide +kernel
theorem dX4_number_29 : decode cX4_number 29 = .ok (.iload 5, 2) := by decide +kernel
theorem dX4_number_31 : decode cX4_number 31 = .ok (.aload_n 0, 1) := by decide +kernel
theorem dX4_number_32 : decode cX4_number 32 = .ok (.getfield 219, 3) := by decide +kernel
theorem dX4_number_35 : decode cX4_number 35 = .ok (.if_icmp .ge 44, 3) := by decide +kernel
theorem dX4_number_38 : decode cX4_number 38 = .ok (.iload_n 3, 1) := by decide +kernel
theorem dX4_number_39 : decode cX4_number 39 = .ok (.ifCond .eq 40, 3) := by decide +kernel
theorem dX4_number_42 : decode cX4_number 42 = .ok (.iload 4, 2) := by decide +kernel
theorem dX4_number_44 : decode cX4_number 44 = .ok (.sipush 999, 3) := by decide +kernel
theorem dX4_number_47 : decode cX4_number 47 = .ok (.if_icmp .le 8, 3) := by decide +kernel
theorem dX4_number_50 : decode cX4_number 50 = .ok (.iload 4, 2) := by decide +kernel
theorem dX4_number_52 : decode cX4_number 52 = .ok (.goto 19, 3) := by decide +kernel
theorem dX4_number_55 : decode cX4_number 55 = .ok (.bipush 10, 2) := by decide +kernel
theorem dX4_number_57 : decode cX4_number 57 = .ok (.iload 4, 2) := by decide +kernel
theorem dX4_number_59 : decode cX4_number 59 = .ok (.imul, 1) := by decide +kernel
theorem dX4_number_60 : decode cX4_number 60 = .ok (.aload_n 0, 1) := by decide +kernel
theorem dX4_number_61 : decode cX4_number 61 = .ok (.getfield 28, 3) := by decide +kernel
theorem dX4_number_64 : decode cX4_number 64 = .ok (.iload 5, 2) := by decide +kernel
theorem dX4_number_66 : decode cX4_number 66 = .ok (.iaload, 1) := by decide +kernel
theorem dX4_number_67 : decode cX4_number 67 = .ok (.iadd, 1) := by decide +kernel
theorem dX4_number_68 : decode cX4_number 68 = .ok (.bipush 48, 2) := by decide +kernel
theorem dX4_number_70 : decode cX4_number 70 = .ok (.isub, 1) := by decide +kernel
theorem dX4_number_71 : decode cX4_number 71 = .ok (.istore 4, 2) := by decide +kernel
theorem dX4_number_73 : decode cX4_number 73 = .ok (.iinc 5 1, 3) := by decide +kernel
theorem dX4_number_76 : decode cX4_number 76 = .ok (.goto (-47), 3) := by decide +kernel
theorem dX4_number_79 : decode cX4_number 79 = .ok (.aload_n 0, 1) := by decide +kernel
theorem dX4_number_80 : decode cX4_number 80 = .ok (.iload 4, 2) := by decide +kernel
theorem dX4_number_82 : decode cX4_number 82 = .ok (.putfield 245, 3) := by decide +kernel
theorem dX4_number_85 : decode cX4_number 85 = .ok (.aload_n 0, 1) := by decide +kernel
theorem dX4_number_86 : decode cX4_number 86 = .ok (.iload_n 3, 1) := by decide +kernel
theorem dX4_number_87 : decode cX4_number 87 = .ok (.ifCond .eq 20, 3) := by decide +kernel
theorem dX4_number_90 : decode cX4_number 90 = .ok (.iload 4, 2) := by decide +kernel
theorem dX4_number_92 : decode cX4_number 92 = .ok (.i2l, 1) := by decide +kernel
theorem dX4_number_93 : decode cX4_number 93 = .ok (.iload_n 1, 1) := by decide +kernel
theorem dX4_number_94 : decode cX4_number 94 = .ok (.i2l, 1) := by decide +kernel
theorem dX4_number_95 : decode cX4_number 95 = .ok (.iload_n 2, 1) := by decide +kernel
theorem dX4_number_96 : decode cX4_number 96 = .ok (.i2l, 1) := by decide +kernel
theorem dX4_number_97 : decode cX4_number 97 = .ok (.invokestatic 49, 3) := by decide +kernel
theorem dX4_number_100 : decode cX4_number 100 = .ok (.ifCond .eq 7, 3) := by decide +kernel
theorem dX4_number_103 : decode cX4_number 103 = .ok (.iconst 1, 1) := by decide +kernel
theorem dX4_number_104 : decode cX4_number 104 = .ok (.goto 4, 3) := by decide +kernel
theorem dX4_number_107 : decode cX4_number 107 = .ok (.iconst 0, 1) := by decide +kernel
theorem dX4_number_108 : decode cX4_number 108 = .ok (.invokevirtual 248, 3) := by decide +kernel
theorem dX4_number_111 : decode cX4_number 111 = .ok (.return_, 1) := by decide +kernel
theorem dX4_kindHere_0 : decode cX4_kindHere 0 = .ok (.aload_n 0, 1) := by decide +kernel
theorem dX4_kindHere_1 : decode cX4_kindHere 1 = .ok (.invokevirtual 252, 3) := by decide +kernel
theorem dX4_kindHere_4 : decode cX4_kindHere 4 = .ok (.lstore_n 1, 1) := by decide +kernel
theorem dX4_kindHere_5 : decode cX4_kindHere 5 = .ok (.lload_n 1, 1) := by decide +kernel
theorem dX4_kindHere_6 : decode cX4_kindHere 6 = .ok (.ldc2_w 256, 3) := by decide +kernel
theorem dX4_kindHere_9 : decode cX4_kindHere 9 = .ok (.lcmp, 1) := by decide +kernel
theorem dX4_kindHere_10 : decode cX4_kindHere 10 = .ok (.ifCond .ne 7, 3) := by decide +kernel
theorem dX4_kindHere_13 : decode cX4_kindHere 13 = .ok (.iconst 0, 1) := by decide +kernel
theorem dX4_kindHere_14 : decode cX4_kindHere 14 = .ok (.goto 64, 3) := by decide +kernel
theorem dX4_kindHere_17 : decode cX4_kindHere 17 = .ok (.lload_n 1, 1) := by decide +kernel
theorem dX4_kindHere_18 : decode cX4_kindHere 18 = .ok (.ldc2_w 258, 3) := by decide +kernel
theorem dX4_kindHere_21 : decode cX4_kindHere 21 = .ok (.lcmp, 1) := by decide +kernel
theorem dX4_kindHere_22 : decode cX4_kindHere 22 = .ok (.ifCond .ne 7, 3) := by decide +kernel
theorem dX4_kindHere_25 : decode cX4_kindHere 25 = .ok (.iconst 1, 1) := by decide +kernel
theorem dX4_kindHere_26 : decode cX4_kindHere 26 = .ok (.goto 52, 3) := by decide +kernel
theorem dX4_kindHere_29 : decode cX4_kindHere 29 = .ok (.lload_n 1, 1) := by decide +kernel
theorem dX4_kindHere_30 : decode cX4_kindHere 30 = .ok (.ldc2_w 260, 3) := by decide +kernel
theorem dX4_kindHere_33 : decode cX4_kindHere 33 = .ok (.lcmp, 1) := by decide +kernel
theorem dX4_kindHere_34 : decode cX4_kindHere 34 = .ok (.ifCond .ne 7, 3) := by decide +kernel
theorem dX4_kindHere_37 : decode cX4_kindHere 37 = .ok (.iconst 2, 1) := by decide +kernel
theorem dX4_kindHere_38 : decode cX4_kindHere 38 = .ok (.goto 40, 3) := by decide +kernel
theorem dX4_kindHere_41 : decode cX4_kindHere 41 = .ok (.lload_n 1, 1) := by decide +kernel
theorem dX4_kindHere_42 : decode cX4_kindHere 42 = .ok (.ldc2_w 262, 3) := by decide +kernel
theorem dX4_kindHere_45 : decode cX4_kindHere 45 = .ok (.lcmp, 1) := by decide +kernel
theorem dX4_kindHere_46 : decode cX4_kindHere 46 = .ok (.ifCond .ne 7, 3) := by decide +kernel
theorem dX4_kindHere_49 : decode cX4_kindHere 49 = .ok (.iconst 3, 1) := by decide +kernel
theorem dX4_kindHere_50 : decode cX4_kindHere 50 = .ok (.goto 28, 3) := by decide +kernel
theorem dX4_kindHere_53 : decode cX4_kindHere 53 = .ok (.lload_n 1, 1) := by decide +kernel
theorem dX4_kindHere_54 : decode cX4_kindHere 54 = .ok (.ldc2_w 264, 3) := by decide +kernel
theorem dX4_kindHere_57 : decode cX4_kindHere 57 = .ok (.lcmp, 1) := by decide +kernel
theorem dX4_kindHere_58 : decode cX4_kindHere 58 = .ok (.ifCond .ne 7, 3) := by decide +kernel
theorem dX4_kindHere_61 : decode cX4_kindHere 61 = .ok (.iconst 4, 1) := by decide +kernel
theorem dX4_kindHere_62 : decode cX4_kindHere 62 = .ok (.goto 16, 3) := by decide +kernel
theorem dX4_kindHere_65 : decode cX4_kindHere 65 = .ok (.lload_n 1, 1) := by decide +kernel
theorem dX4_kindHere_66 : decode cX4_kindHere 66 = .ok (.ldc2_w 266, 3) := by decide +kernel
theorem dX4_kindHere_69 : decode cX4_kindHere 69 = .ok (.lcmp, 1) := by decide +kernel
theorem dX4_kindHere_70 : decode cX4_kindHere 70 = .ok (.ifCond .ne 7, 3) := by decide +kernel
theorem dX4_kindHere_73 : decode cX4_kindHere 73 = .ok (.iconst 5, 1) := by decide +kernel
theorem dX4_kindHere_74 : decode cX4_kindHere 74 = .ok (.goto 4, 3) := by decide +kernel
theorem dX4_kindHere_77 : decode cX4_kindHere 77 = .ok (.iconst (-1), 1) := by decide +kernel
theorem dX4_kindHere_78 : decode cX4_kindHere 78 = .ok (.ireturn, 1) := by decide +kernel
theorem dX4_wantHere_0 : decode cX4_wantHere 0 = .ok (.aload_n 0, 1) := by decide +kernel
theorem dX4_wantHere_1 : decode cX4_wantHere 1 = .ok (.invokevirtual 252, 3) := by decide +kernel
theorem dX4_wantHere_4 : decode cX4_wantHere 4 = .ok (.lstore_n 1, 1) := by decide +kernel
theorem dX4_wantHere_5 : decode cX4_wantHere 5 = .ok (.lload_n 1, 1) := by decide +kernel
theorem dX4_wantHere_6 : decode cX4_wantHere 6 = .ok (.ldc2_w 268, 3) := by decide +kernel
theorem dX4_wantHere_9 : decode cX4_wantHere 9 = .ok (.lcmp, 1) := by decide +kernel
theorem dX4_wantHere_10 : decode cX4_wantHere 10 = .ok (.ifCond .ne 7, 3) := by decide +kernel
theorem dX4_wantHere_13 : decode cX4_wantHere 13 = .ok (.iconst 0, 1) := by decide +kernel
theorem dX4_wantHere_14 : decode cX4_wantHere 14 = .ok (.goto 52, 3) := by decide +kernel
theorem dX4_wantHere_17 : decode cX4_wantHere 17 = .ok (.lload_n 1, 1) := by decide +kernel
theorem dX4_wantHere_18 : decode cX4_wantHere 18 = .ok (.ldc2_w 270, 3) := by decide +kernel
theorem dX4_wantHere_21 : decode cX4_wantHere 21 = .ok (.lcmp, 1) := by decide +kernel
theorem dX4_wantHere_22 : decode cX4_wantHere 22 = .ok (.ifCond .ne 7, 3) := by decide +kernel
theorem dX4_wantHere_25 : decode cX4_wantHere 25 = .ok (.iconst 1, 1) := by decide +kernel
theorem dX4_wantHere_26 : decode cX4_wantHere 26 = .ok (.goto 40, 3) := by decide +kernel
theorem dX4_wantHere_29 : decode cX4_wantHere 29 = .ok (.lload_n 1, 1) := by decide +kernel
theorem dX4_wantHere_30 : decode cX4_wantHere 30 = .ok (.ldc2_w 272, 3) := by decide +kernel
theorem dX4_wantHere_33 : decode cX4_wantHere 33 = .ok (.lcmp, 1) := by decide +kernel
theorem dX4_wantHere_34 : decode cX4_wantHere 34 = .ok (.ifCond .ne 7, 3) := by decide +kernel
theorem dX4_wantHere_37 : decode cX4_wantHere 37 = .ok (.iconst 2, 1) := by decide +kernel
theorem dX4_wantHere_38 : decode cX4_wantHere 38 = .ok (.goto 28, 3) := by decide +kernel
theorem dX4_wantHere_41 : decode cX4_wantHere 41 = .ok (.lload_n 1, 1) := by decide +kernel
theorem dX4_wantHere_42 : decode cX4_wantHere 42 = .ok (.ldc2_w 274, 3) := by decide +kernel
theorem dX4_wantHere_45 : decode cX4_wantHere 45 = .ok (.lcmp, 1) := by decide +kernel
theorem dX4_wantHere_46 : decode cX4_wantHere 46 = .ok (.ifCond .ne 7, 3) := by decide +kernel
theorem dX4_wantHere_49 : decode cX4_wantHere 49 = .ok (.iconst 3, 1) := by decide +kernel
theorem dX4_wantHere_50 : decode cX4_wantHere 50 = .ok (.goto 16, 3) := by decide +kernel
theorem dX4_wantHere_53 : decode cX4_wantHere 53 = .ok (.lload_n 1, 1) := by decide +kernel
theorem dX4_wantHere_54 : decode cX4_wantHere 54 = .ok (.ldc2_w 276, 3) := by decide +kernel
theorem dX4_wantHere_57 : decode cX4_wantHere 57 = .ok (.lcmp, 1) := by decide +kernel
theorem dX4_wantHere_58 : decode cX4_wantHere 58 = .ok (.ifCond .ne 7, 3) := by decide +kernel
theorem dX4_wantHere_61 : decode cX4_wantHere 61 = .ok (.iconst 4, 1) := by decide +kernel
theorem dX4_wantHere_62 : decode cX4_wantHere 62 = .ok (.goto 4, 3) := by decide +kernel
theorem dX4_wantHere_65 : decode cX4_wantHere 65 = .ok (.iconst (-1), 1) := by decide +kernel
theorem dX4_wantHere_66 : decode cX4_wantHere 66 = .ok (.ireturn, 1) := by decide +kernel
theorem dX4_figureItem_0 : decode cX4_figureItem 0 = .ok (.aload_n 0, 1) := by decide +kernel
theorem dX4_figureItem_1 : decode cX4_figureItem 1 = .ok (.aload_n 0, 1) := by decide +kernel
theorem dX4_figureItem_2 : decode cX4_figureItem 2 = .ok (.getfield 7, 3) := by decide +kernel
theorem dX4_figureItem_5 : decode cX4_figureItem 5 = .ok (.iconst 1, 1) := by decide +kernel
theorem dX4_figureItem_6 : decode cX4_figureItem 6 = .ok (.iaload, 1) := by decide +kernel
theorem dX4_figureItem_7 : decode cX4_figureItem 7 = .ok (.bipush 8, 2) := by decide +kernel
theorem dX4_figureItem_9 : decode cX4_figureItem 9 = .ok (.if_icmp .ge 7, 3) := by decide +kernel
theorem dX4_figureItem_12 : decode cX4_figureItem 12 = .ok (.iconst 1, 1) := by decide +kernel
theorem dX4_figureItem_13 : decode cX4_figureItem 13 = .ok (.goto 4, 3) := by decide +kernel
theorem dX4_figureItem_16 : decode cX4_figureItem 16 = .ok (.iconst 0, 1) := by decide +kernel
theorem dX4_figureItem_17 : decode cX4_figureItem 17 = .ok (.invokevirtual 248, 3) := by decide +kernel
theorem dX4_figureItem_20 : decode cX4_figureItem 20 = .ok (.aload_n 0, 1) := by decide +kernel
theorem dX4_figureItem_21 : decode cX4_figureItem 21 = .ok (.iconst 0, 1) := by decide +kernel
theorem dX4_figureItem_22 : decode cX4_figureItem 22 = .ok (.iconst 3, 1) := by decide +kernel
theorem dX4_figureItem_23 : decode cX4_figureItem 23 = .ok (.invokevirtual 278, 3) := by decide +kernel
theorem dX4_figureItem_26 : decode cX4_figureItem 26 = .ok (.aload_n 0, 1) := by decide +kernel
theorem dX4_figureItem_27 : decode cX4_figureItem 27 = .ok (.getfield 245, 3) := by decide +kernel
theorem dX4_figureItem_30 : decode cX4_figureItem 30 = .ok (.istore_n 2, 1) := by decide +kernel
theorem dX4_figureItem_31 : decode cX4_figureItem 31 = .ok (.aload_n 0, 1) := by decide +kernel
theorem dX4_figureItem_32 : decode cX4_figureItem 32 = .ok (.iconst 0, 1) := by decide +kernel
theorem dX4_figureItem_33 : decode cX4_figureItem 33 = .ok (.bipush 19, 2) := by decide +kernel
theorem dX4_figureItem_35 : decode cX4_figureItem 35 = .ok (.invokevirtual 278, 3) := by decide +kernel
theorem dX4_figureItem_38 : decode cX4_figureItem 38 = .ok (.aload_n 0, 1) := by decide +kernel
theorem dX4_figureItem_39 : decode cX4_figureItem 39 = .ok (.getfield 234, 3) := by decide +kernel
theorem dX4_figureItem_42 : decode cX4_figureItem 42 = .ok (.ifCond .eq 4, 3) := by decide +kernel
theorem dX4_figureItem_45 : decode cX4_figureItem 45 = .ok (.return_, 1) := by decide +kernel
theorem dX4_figureItem_46 : decode cX4_figureItem 46 = .ok (.aload_n 0, 1) := by decide +kernel
theorem dX4_figureItem_47 : decode cX4_figureItem 47 = .ok (.iload_n 1, 1) := by decide +kernel
theorem dX4_figureItem_48 : decode cX4_figureItem 48 = .ok (.iload_n 2, 1) := by decide +kernel
theorem dX4_figureItem_49 : decode cX4_figureItem 49 = .ok (.aload_n 0, 1) := by decide +kernel
theorem dX4_figureItem_50 : decode cX4_figureItem 50 = .ok (.getfield 245, 3) := by decide +kernel
theorem dX4_figureItem_53 : decode cX4_figureItem 53 = .ok (.invokevirtual 124, 3) := by decide +kernel
theorem dX4_figureItem_56 : decode cX4_figureItem 56 = .ok (.istore_n 3, 1) := by decide +kernel
theorem dX4_figureItem_57 : decode cX4_figureItem 57 = .ok (.aload_n 0, 1) := by decide +kernel
theorem dX4_figureItem_58 : decode cX4_figureItem 58 = .ok (.invokevirtual 252, 3) := by decide +kernel
theorem dX4_figureItem_61 : decode cX4_figureItem 61 = .ok (.ldc2_w 282, 3) := by decide +kernel
theorem dX4_figureItem_64 : decode cX4_figureItem 64 = .ok (.lcmp, 1) := by decide +kernel
theorem dX4_figureItem_65 : decode cX4_figureItem 65 = .ok (.ifCond .ne 29, 3) := by decide +kernel
theorem dX4_figureItem_68 : decode cX4_figureItem 68 = .ok (.aload_n 0, 1) := by decide +kernel
theorem dX4_figureItem_69 : decode cX4_figureItem 69 = .ok (.iconst 1, 1) := by decide +kernel
theorem dX4_figureItem_70 : decode cX4_figureItem 70 = .ok (.invokevirtual 248, 3) := by decide +kernel
theorem dX4_figureItem_73 : decode cX4_figureItem 73 = .ok (.aload_n 0, 1) := by decide +kernel
theorem dX4_figureItem_74 : decode cX4_figureItem 74 = .ok (.iconst 0, 1) := by decide +kernel
theorem dX4_figureItem_75 : decode cX4_figureItem 75 = .ok (.bipush 99, 2) := by decide +kernel
theorem dX4_figureItem_77 : decode cX4_figureItem 77 = .ok (.invokevirtual 278, 3) := by decide +kernel
theorem dX4_figureItem_80 : decode cX4_figureItem 80 = .ok (.aload_n 0, 1) := by decide +kernel
theorem dX4_figureItem_81 : decode cX4_figureItem 81 = .ok (.getfield 7, 3) := by decide +kernel
theorem dX4_figureItem_84 : decode cX4_figureItem 84 = .ok (.iload_n 3, 1) := by decide +kernel
theorem dX4_figureItem_85 : decode cX4_figureItem 85 = .ok (.iconst 3, 1) := by decide +kernel
theorem dX4_figureItem_86 : decode cX4_figureItem 86 = .ok (.invokestatic 45, 3) := by decide +kernel
theorem dX4_figureItem_89 : decode cX4_figureItem 89 = .ok (.aload_n 0, 1) := by decide +kernel
theorem dX4_figureItem_90 : decode cX4_figureItem 90 = .ok (.getfield 245, 3) := by decide +kernel
theorem dX4_figureItem_93 : decode cX4_figureItem 93 = .ok (.iastore, 1) := by decide +kernel
theorem dX4_figureItem_94 : decode cX4_figureItem 94 = .ok (.aload_n 0, 1) := by decide +kernel
theorem dX4_figureItem_95 : decode cX4_figureItem 95 = .ok (.invokevirtual 252, 3) := by decide +kernel
theorem dX4_figureItem_98 : decode cX4_figureItem 98 = .ok (.ldc2_w 276, 3) := by decide +kernel
theorem dX4_figureItem_101 : decode cX4_figureItem 101 = .ok (.lcmp, 1) := by decide +kernel
theorem dX4_figureItem_102 : decode cX4_figureItem 102 = .ok (.ifCond .ne 19, 3) := by decide +kernel
theorem dX4_figureItem_105 : decode cX4_figureItem 105 = .ok (.aload_n 0, 1) := by decide +kernel
theorem dX4_figureItem_106 : decode cX4_figureItem 106 = .ok (.iconst 1, 1) := by decide +kernel
theorem dX4_figureItem_107 : decode cX4_figureItem 107 = .ok (.invokevirtual 248, 3) := by decide +kernel
theorem dX4_figureItem_110 : decode cX4_figureItem 110 = .ok (.aload_n 0, 1) := by decide +kernel
theorem dX4_figureItem_111 : decode cX4_figureItem 111 = .ok (.getfield 7, 3) := by decide +kernel
theorem dX4_figureItem_114 : decode cX4_figureItem 114 = .ok (.iload_n 3, 1) := by decide +kernel
theorem dX4_figureItem_115 : decode cX4_figureItem 115 = .ok (.iconst 4, 1) := by decide +kernel
theorem dX4_figureItem_116 : decode cX4_figureItem 116 = .ok (.invokestatic 45, 3) := by decide +kernel
theorem dX4_figureItem_119 : decode cX4_figureItem 119 = .ok (.iconst 1, 1) := by decide +kernel
theorem dX4_figureItem_120 : decode cX4_figureItem 120 = .ok (.iastore, 1) := by decide +kernel
theorem dX4_figureItem_121 : decode cX4_figureItem 121 = .ok (.return_, 1) := by decide +kernel
theorem dX4_wantsItem_0 : decode cX4_wantsItem 0 = .ok (.aload_n 0, 1) := by decide +kernel
theorem dX4_wantsItem_1 : decode cX4_wantsItem 1 = .ok (.iconst 1, 1) := by decide +kernel
theorem dX4_wantsItem_2 : decode cX4_wantsItem 2 = .ok (.invokevirtual 248, 3) := by decide +kernel
theorem dX4_wantsItem_5 : decode cX4_wantsItem 5 = .ok (.aload_n 0, 1) := by decide +kernel
theorem dX4_wantsItem_6 : decode cX4_wantsItem 6 = .ok (.iconst 0, 1) := by decide +kernel
theorem dX4_wantsItem_7 : decode cX4_wantsItem 7 = .ok (.aload_n 0, 1) := by decide +kernel
theorem dX4_wantsItem_8 : decode cX4_wantsItem 8 = .ok (.getfield 7, 3) := by decide +kernel
theorem dX4_wantsItem_11 : decode cX4_wantsItem 11 = .ok (.iconst 1, 1) := by decide +kernel
theorem dX4_wantsItem_12 : decode cX4_wantsItem 12 = .ok (.iaload, 1) := by decide +kernel
theorem dX4_wantsItem_13 : decode cX4_wantsItem 13 = .ok (.iconst 1, 1) := by decide +kernel
theorem dX4_wantsItem_14 : decode cX4_wantsItem 14 = .ok (.isub, 1) := by decide +kernel
theorem dX4_wantsItem_15 : decode cX4_wantsItem 15 = .ok (.invokevirtual 278, 3) := by decide +kernel
theorem dX4_wantsItem_18 : decode cX4_wantsItem 18 = .ok (.aload_n 0, 1) := by decide +kernel
theorem dX4_wantsItem_19 : decode cX4_wantsItem 19 = .ok (.getfield 245, 3) := by decide +kernel
theorem dX4_wantsItem_22 : decode cX4_wantsItem 22 = .ok (.istore_n 1, 1) := by decide +kernel
theorem dX4_wantsItem_23 : decode cX4_wantsItem 23 = .ok (.aload_n 0, 1) := by decide +kernel
theorem dX4_wantsItem_24 : decode cX4_wantsItem 24 = .ok (.invokevirtual 284, 3) := by decide +kernel
theorem dX4_wantsItem_27 : decode cX4_wantsItem 27 = .ok (.istore_n 2, 1) := by decide +kernel
theorem dX4_wantsItem_28 : decode cX4_wantsItem 28 = .ok (.aload_n 0, 1) := by decide +kernel
theorem dX4_wantsItem_29 : decode cX4_wantsItem 29 = .ok (.iload_n 2, 1) := by decide +kernel
theorem dX4_wantsItem_30 : decode cX4_wantsItem 30 = .ok (.ifCond .lt 7, 3) := by decide +kernel
theorem dX4_wantsItem_33 : decode cX4_wantsItem 33 = .ok (.iconst 1, 1) := by decide +kernel
theorem dX4_wantsItem_34 : decode cX4_wantsItem 34 = .ok (.goto 4, 3) := by decide +kernel
theorem dX4_wantsItem_37 : decode cX4_wantsItem 37 = .ok (.iconst 0, 1) := by decide +kernel
theorem dX4_wantsItem_38 : decode cX4_wantsItem 38 = .ok (.invokevirtual 248, 3) := by decide +kernel
theorem dX4_wantsItem_41 : decode cX4_wantsItem 41 = .ok (.aload_n 0, 1) := by decide +kernel
theorem dX4_wantsItem_42 : decode cX4_wantsItem 42 = .ok (.getfield 234, 3) := by decide +kernel
theorem dX4_wantsItem_45 : decode cX4_wantsItem 45 = .ok (.ifCond .eq 4, 3) := by decide +kernel
theorem dX4_wantsItem_48 : decode cX4_wantsItem 48 = .ok (.return_, 1) := by decide +kernel
theorem dX4_wantsItem_49 : decode cX4_wantsItem 49 = .ok (.aload_n 0, 1) := by decide +kernel
theorem dX4_wantsItem_50 : decode cX4_wantsItem 50 = .ok (.getfield 7, 3) := by decide +kernel
theorem dX4_wantsItem_53 : decode cX4_wantsItem 53 = .ok (.iload_n 1, 1) := by decide +kernel
theorem dX4_wantsItem_54 : decode cX4_wantsItem 54 = .ok (.iconst 5, 1) := by decide +kernel
theorem dX4_wantsItem_55 : decode cX4_wantsItem 55 = .ok (.invokestatic 45, 3) := by decide +kernel
theorem dX4_wantsItem_58 : decode cX4_wantsItem 58 = .ok (.iload_n 2, 1) := by decide +kernel
theorem dX4_wantsItem_59 : decode cX4_wantsItem 59 = .ok (.iastore, 1) := by decide +kernel
theorem dX4_wantsItem_60 : decode cX4_wantsItem 60 = .ok (.iload_n 2, 1) := by decide +kernel
theorem dX4_wantsItem_61 : decode cX4_wantsItem 61 = .ok (.iconst 1, 1) := by decide +kernel
theorem dX4_wantsItem_62 : decode cX4_wantsItem 62 = .ok (.if_icmp .eq 8, 3) := by decide +kernel
theorem dX4_wantsItem_65 : decode cX4_wantsItem 65 = .ok (.iload_n 2, 1) := by decide +kernel
theorem dX4_wantsItem_66 : decode cX4_wantsItem 66 = .ok (.iconst 2, 1) := by decide +kernel
theorem dX4_wantsItem_67 : decode cX4_wantsItem 67 = .ok (.if_icmp .ne 31, 3) := by decide +kernel
theorem dX4_wantsItem_70 : decode cX4_wantsItem 70 = .ok (.aload_n 0, 1) := by decide +kernel
theorem dX4_wantsItem_71 : decode cX4_wantsItem 71 = .ok (.iconst 0, 1) := by decide +kernel
theorem dX4_wantsItem_72 : decode cX4_wantsItem 72 = .ok (.aload_n 0, 1) := by decide +kernel
theorem dX4_wantsItem_73 : decode cX4_wantsItem 73 = .ok (.getfield 7, 3) := by decide +kernel
theorem dX4_wantsItem_76 : decode cX4_wantsItem 76 = .ok (.iconst 1, 1) := by decide +kernel
theorem dX4_wantsItem_77 : decode cX4_wantsItem 77 = .ok (.iaload, 1) := by decide +kernel
theorem dX4_wantsItem_78 : decode cX4_wantsItem 78 = .ok (.iconst 1, 1) := by decide +kernel
theorem dX4_wantsItem_79 : decode cX4_wantsItem 79 = .ok (.isub, 1) := by decide +kernel
theorem dX4_wantsItem_80 : decode cX4_wantsItem 80 = .ok (.invokevirtual 278, 3) := by decide +kernel
theorem dX4_wantsItem_83 : decode cX4_wantsItem 83 = .ok (.aload_n 0, 1) := by decide +kernel
theorem dX4_wantsItem_84 : decode cX4_wantsItem 84 = .ok (.getfield 7, 3) := by decide +kernel
theorem dX4_wantsItem_87 : decode cX4_wantsItem 87 = .ok (.iload_n 1, 1) := by decide +kernel
theorem dX4_wantsItem_88 : decode cX4_wantsItem 88 = .ok (.bipush 6, 2) := by decide +kernel
theorem dX4_wantsItem_90 : decode cX4_wantsItem 90 = .ok (.invokestatic 45, 3) := by decide +kernel
theorem dX4_wantsItem_93 : decode cX4_wantsItem 93 = .ok (.aload_n 0, 1) := by decide +kernel
theorem dX4_wantsItem_94 : decode cX4_wantsItem 94 = .ok (.getfield 245, 3) := by decide +kernel
theorem dX4_wantsItem_97 : decode cX4_wantsItem 97 = .ok (.iastore, 1) := by decide +kernel
theorem dX4_wantsItem_98 : decode cX4_wantsItem 98 = .ok (.return_, 1) := by decide +kernel
theorem dX4_outItem_0 : decode cX4_outItem 0 = .ok (.aload_n 0, 1) := by decide +kernel
theorem dX4_outItem_1 : decode cX4_outItem 1 = .ok (.iconst 1, 1) := by decide +kernel
theorem dX4_outItem_2 : decode cX4_outItem 2 = .ok (.invokevirtual 248, 3) := by decide +kernel
theorem dX4_outItem_5 : decode cX4_outItem 5 = .ok (.aload_n 0, 1) := by decide +kernel
theorem dX4_outItem_6 : decode cX4_outItem 6 = .ok (.iconst 0, 1) := by decide +kernel
theorem dX4_outItem_7 : decode cX4_outItem 7 = .ok (.aload_n 0, 1) := by decide +kernel
theorem dX4_outItem_8 : decode cX4_outItem 8 = .ok (.getfield 7, 3) := by decide +kernel
theorem dX4_outItem_11 : decode cX4_outItem 11 = .ok (.iconst 1, 1) := by decide +kernel
theorem dX4_outItem_12 : decode cX4_outItem 12 = .ok (.iaload, 1) := by decide +kernel
theorem dX4_outItem_13 : decode cX4_outItem 13 = .ok (.iconst 1, 1) := by decide +kernel
theorem dX4_outItem_14 : decode cX4_outItem 14 = .ok (.isub, 1) := by decide +kernel
theorem dX4_outItem_15 : decode cX4_outItem 15 = .ok (.invokevirtual 278, 3) := by decide +kernel
theorem dX4_outItem_18 : decode cX4_outItem 18 = .ok (.aload_n 0, 1) := by decide +kernel
theorem dX4_outItem_19 : decode cX4_outItem 19 = .ok (.getfield 234, 3) := by decide +kernel
theorem dX4_outItem_22 : decode cX4_outItem 22 = .ok (.ifCond .ne 18, 3) := by decide +kernel
theorem dX4_outItem_25 : decode cX4_outItem 25 = .ok (.aload_n 0, 1) := by decide +kernel
theorem dX4_outItem_26 : decode cX4_outItem 26 = .ok (.getfield 7, 3) := by decide +kernel
theorem dX4_outItem_29 : decode cX4_outItem 29 = .ok (.aload_n 0, 1) := by decide +kernel
theorem dX4_outItem_30 : decode cX4_outItem 30 = .ok (.getfield 245, 3) := by decide +kernel
theorem dX4_outItem_33 : decode cX4_outItem 33 = .ok (.bipush 7, 2) := by decide +kernel
theorem dX4_outItem_35 : decode cX4_outItem 35 = .ok (.invokestatic 45, 3) := by decide +kernel
theorem dX4_outItem_38 : decode cX4_outItem 38 = .ok (.iload_n 1, 1) := by decide +kernel
theorem dX4_outItem_39 : decode cX4_outItem 39 = .ok (.iastore, 1) := by decide +kernel
theorem dX4_outItem_40 : decode cX4_outItem 40 = .ok (.return_, 1) := by decide +kernel
theorem dX4_tackyItem_0 : decode cX4_tackyItem 0 = .ok (.aload_n 0, 1) := by decide +kernel
theorem dX4_tackyItem_1 : decode cX4_tackyItem 1 = .ok (.iconst 1, 1) := by decide +kernel
theorem dX4_tackyItem_2 : decode cX4_tackyItem 2 = .ok (.invokevirtual 248, 3) := by decide +kernel
theorem dX4_tackyItem_5 : decode cX4_tackyItem 5 = .ok (.aload_n 0, 1) := by decide +kernel
theorem dX4_tackyItem_6 : decode cX4_tackyItem 6 = .ok (.iconst 0, 1) := by decide +kernel
theorem dX4_tackyItem_7 : decode cX4_tackyItem 7 = .ok (.bipush 8, 2) := by decide +kernel
theorem dX4_tackyItem_9 : decode cX4_tackyItem 9 = .ok (.invokevirtual 278, 3) := by decide +kernel
theorem dX4_tackyItem_12 : decode cX4_tackyItem 12 = .ok (.aload_n 0, 1) := by decide +kernel
theorem dX4_tackyItem_13 : decode cX4_tackyItem 13 = .ok (.getfield 7, 3) := by decide +kernel
theorem dX4_tackyItem_16 : decode cX4_tackyItem 16 = .ok (.iconst 2, 1) := by decide +kernel
theorem dX4_tackyItem_17 : decode cX4_tackyItem 17 = .ok (.aload_n 0, 1) := by decide +kernel
theorem dX4_tackyItem_18 : decode cX4_tackyItem 18 = .ok (.getfield 234, 3) := by decide +kernel
theorem dX4_tackyItem_21 : decode cX4_tackyItem 21 = .ok (.ifCond .eq 12, 3) := by decide +kernel
theorem dX4_tackyItem_24 : decode cX4_tackyItem 24 = .ok (.aload_n 0, 1) := by decide +kernel
theorem dX4_tackyItem_25 : decode cX4_tackyItem 25 = .ok (.getfield 7, 3) := by decide +kernel
theorem dX4_tackyItem_28 : decode cX4_tackyItem 28 = .ok (.iconst 2, 1) := by decide +kernel
theorem dX4_tackyItem_29 : decode cX4_tackyItem 29 = .ok (.iaload, 1) := by decide +kernel
theorem dX4_tackyItem_30 : decode cX4_tackyItem 30 = .ok (.goto 7, 3) := by decide +kernel
theorem dX4_tackyItem_33 : decode cX4_tackyItem 33 = .ok (.aload_n 0, 1) := by decide +kernel
theorem dX4_tackyItem_34 : decode cX4_tackyItem 34 = .ok (.getfield 245, 3) := by decide +kernel
theorem dX4_tackyItem_37 : decode cX4_tackyItem 37 = .ok (.iastore, 1) := by decide +kernel
theorem dX4_tackyItem_38 : decode cX4_tackyItem 38 = .ok (.return_, 1) := by decide +kernel
theorem dX4_item_0 : decode cX4_item 0 = .ok (.aload_n 0, 1) := by decide +kernel
theorem dX4_item_1 : decode cX4_item 1 = .ok (.invokevirtual 287, 3) := by decide +kernel
theorem dX4_item_4 : decode cX4_item 4 = .ok (.istore_n 1, 1) := by decide +kernel
theorem dX4_item_5 : decode cX4_item 5 = .ok (.aload_n 0, 1) := by decide +kernel
theorem dX4_item_6 : decode cX4_item 6 = .ok (.invokevirtual 252, 3) := by decide +kernel
theorem dX4_item_9 : decode cX4_item 9 = .ok (.lstore_n 2, 1) := by decide +kernel
theorem dX4_item_10 : decode cX4_item 10 = .ok (.iload_n 1, 1) := by decide +kernel
theorem dX4_item_11 : decode cX4_item 11 = .ok (.ifCond .lt 11, 3) := by decide +kernel
theorem dX4_item_14 : decode cX4_item 14 = .ok (.aload_n 0, 1) := by decide +kernel
theorem dX4_item_15 : decode cX4_item 15 = .ok (.iload_n 1, 1) := by decide +kernel
theorem dX4_item_16 : decode cX4_item 16 = .ok (.invokevirtual 290, 3) := by decide +kernel
theorem dX4_item_19 : decode cX4_item 19 = .ok (.goto 74, 3) := by decide +kernel
theorem dX4_item_22 : decode cX4_item 22 = .ok (.lload_n 2, 1) := by decide +kernel
theorem dX4_item_23 : decode cX4_item 23 = .ok (.ldc2_w 293, 3) := by decide +kernel
theorem dX4_item_26 : decode cX4_item 26 = .ok (.lcmp, 1) := by decide +kernel
theorem dX4_item_27 : decode cX4_item 27 = .ok (.ifCond .ne 10, 3) := by decide +kernel
theorem dX4_item_30 : decode cX4_item 30 = .ok (.aload_n 0, 1) := by decide +kernel
theorem dX4_item_31 : decode cX4_item 31 = .ok (.invokevirtual 295, 3) := by decide +kernel
theorem dX4_item_34 : decode cX4_item 34 = .ok (.goto 59, 3) := by decide +kernel
theorem dX4_item_37 : decode cX4_item 37 = .ok (.lload_n 2, 1) := by decide +kernel
theorem dX4_item_38 : decode cX4_item 38 = .ok (.ldc2_w 298, 3) := by decide +kernel
theorem dX4_item_41 : decode cX4_item 41 = .ok (.lcmp, 1) := by decide +kernel
theorem dX4_item_42 : decode cX4_item 42 = .ok (.ifCond .eq 11, 3) := by decide +kernel
theorem dX4_item_45 : decode cX4_item 45 = .ok (.lload_n 2, 1) := by decide +kernel
theorem dX4_item_46 : decode cX4_item 46 = .ok (.ldc2_w 300, 3) := by decide +kernel
theorem dX4_item_49 : decode cX4_item 49 = .ok (.lcmp, 1) := by decide +kernel
theorem dX4_item_50 : decode cX4_item 50 = .ok (.ifCond .ne 23, 3) := by decide +kernel
theorem dX4_item_53 : decode cX4_item 53 = .ok (.aload_n 0, 1) := by decide +kernel
theorem dX4_item_54 : decode cX4_item 54 = .ok (.lload_n 2, 1) := by decide +kernel
theorem dX4_item_55 : decode cX4_item 55 = .ok (.ldc2_w 298, 3) := by decide +kernel
theorem dX4_item_58 : decode cX4_item 58 = .ok (.lcmp, 1) := by decide +kernel
theorem dX4_item_59 : decode cX4_item 59 = .ok (.ifCond .ne 7, 3) := by decide +kernel
theorem dX4_item_62 : decode cX4_item 62 = .ok (.iconst 1, 1) := by decide +kernel
theorem dX4_item_63 : decode cX4_item 63 = .ok (.goto 4, 3) := by decide +kernel
theorem dX4_item_66 : decode cX4_item 66 = .ok (.iconst 0, 1) := by decide +kernel
theorem dX4_item_67 : decode cX4_item 67 = .ok (.invokevirtual 302, 3) := by decide +kernel
theorem dX4_item_70 : decode cX4_item 70 = .ok (.goto 23, 3) := by decide +kernel
theorem dX4_item_73 : decode cX4_item 73 = .ok (.lload_n 2, 1) := by decide +kernel
theorem dX4_item_74 : decode cX4_item 74 = .ok (.ldc2_w 305, 3) := by decide +kernel
theorem dX4_item_77 : decode cX4_item 77 = .ok (.lcmp, 1) := by decide +kernel
theorem dX4_item_78 : decode cX4_item 78 = .ok (.ifCond .ne 10, 3) := by decide +kernel
theorem dX4_item_81 : decode cX4_item 81 = .ok (.aload_n 0, 1) := by decide +kernel
theorem dX4_item_82 : decode cX4_item 82 = .ok (.invokevirtual 307, 3) := by decide +kernel
theorem dX4_item_85 : decode cX4_item 85 = .ok (.goto 8, 3) := by decide +kernel
theorem dX4_item_88 : decode cX4_item 88 = .ok (.aload_n 0, 1) := by decide +kernel
theorem dX4_item_89 : decode cX4_item 89 = .ok (.iconst 0, 1) := by decide +kernel
theorem dX4_item_90 : decode cX4_item 90 = .ok (.invokevirtual 248, 3) := by decide +kernel
theorem dX4_item_93 : decode cX4_item 93 = .ok (.return_, 1) := by decide +kernel
theorem dX4_night_0 : decode cX4_night 0 = .ok (.aload_n 0, 1) := by decide +kernel
theorem dX4_night_1 : decode cX4_night 1 = .ok (.invokevirtual 310, 3) := by decide +kernel
theorem dX4_night_4 : decode cX4_night 4 = .ok (.aload_n 0, 1) := by decide +kernel
theorem dX4_night_5 : decode cX4_night 5 = .ok (.iconst 0, 1) := by decide +kernel
theorem dX4_night_6 : decode cX4_night 6 = .ok (.putfield 234, 3) := by decide +kernel
theorem dX4_night_9 : decode cX4_night 9 = .ok (.aload_n 0, 1) := by decide +kernel
theorem dX4_night_10 : decode cX4_night 10 = .ok (.iconst 0, 1) := by decide +kernel
theorem dX4_night_11 : decode cX4_night 11 = .ok (.putfield 219, 3) := by decide +kernel
theorem dX4_night_14 : decode cX4_night 14 = .ok (.aload_n 0, 1) := by decide +kernel
theorem dX4_night_15 : decode cX4_night 15 = .ok (.invokevirtual 238, 3) := by decide +kernel
theorem dX4_night_18 : decode cX4_night 18 = .ok (.iconst 1, 1) := by decide +kernel
theorem dX4_night_19 : decode cX4_night 19 = .ok (.istore_n 1, 1) := by decide +kernel
theorem dX4_night_20 : decode cX4_night 20 = .ok (.aload_n 0, 1) := by decide +kernel
theorem dX4_night_21 : decode cX4_night 21 = .ok (.invokevirtual 313, 3) := by decide +kernel
theorem dX4_night_24 : decode cX4_night 24 = .ok (.aload_n 0, 1) := by decide +kernel
theorem dX4_night_25 : decode cX4_night 25 = .ok (.getfield 234, 3) := by decide +kernel
theorem dX4_night_28 : decode cX4_night 28 = .ok (.ifCond .ne 31, 3) := by decide +kernel
theorem dX4_night_31 : decode cX4_night 31 = .ok (.aload_n 0, 1) := by decide +kernel
theorem dX4_night_32 : decode cX4_night 32 = .ok (.aload_n 0, 1) := by decide +kernel
theorem dX4_night_33 : decode cX4_night 33 = .ok (.getfield 222, 3) := by decide +kernel
theorem dX4_night_36 : decode cX4_night 36 = .ok (.invokevirtual 225, 3) := by decide +kernel
theorem dX4_night_39 : decode cX4_night 39 = .ok (.bipush 59, 2) := by decide +kernel
theorem dX4_night_41 : decode cX4_night 41 = .ok (.if_icmp .ne 18, 3) := by decide +kernel
theorem dX4_night_44 : decode cX4_night 44 = .ok (.aload_n 0, 1) := by decide +kernel
theorem dX4_night_45 : decode cX4_night 45 = .ok (.iconst 1, 1) := by decide +kernel
theorem dX4_night_46 : decode cX4_night 46 = .ok (.invokevirtual 248, 3) := by decide +kernel
theorem dX4_night_49 : decode cX4_night 49 = .ok (.aload_n 0, 1) := by decide +kernel
theorem dX4_night_50 : decode cX4_night 50 = .ok (.invokevirtual 313, 3) := by decide +kernel
theorem dX4_night_53 : decode cX4_night 53 = .ok (.iinc 1 1, 3) := by decide +kernel
theorem dX4_night_56 : decode cX4_night 56 = .ok (.goto (-32), 3) := by decide +kernel
theorem dX4_night_59 : decode cX4_night 59 = .ok (.aload_n 0, 1) := by decide +kernel
theorem dX4_night_60 : decode cX4_night 60 = .ok (.aload_n 0, 1) := by decide +kernel
theorem dX4_night_61 : decode cX4_night 61 = .ok (.getfield 234, 3) := by decide +kernel
theorem dX4_night_64 : decode cX4_night 64 = .ok (.ifCond .ne 14, 3) := by decide +kernel
theorem dX4_night_67 : decode cX4_night 67 = .ok (.aload_n 0, 1) := by decide +kernel
theorem dX4_night_68 : decode cX4_night 68 = .ok (.getfield 222, 3) := by decide +kernel
theorem dX4_night_71 : decode cX4_night 71 = .ok (.aload_n 0, 1) := by decide +kernel
theorem dX4_night_72 : decode cX4_night 72 = .ok (.getfield 207, 3) := by decide +kernel
theorem dX4_night_75 : decode cX4_night 75 = .ok (.if_icmp .ge 7, 3) := by decide +kernel
theorem dX4_night_78 : decode cX4_night 78 = .ok (.iconst 1, 1) := by decide +kernel
theorem dX4_night_79 : decode cX4_night 79 = .ok (.goto 4, 3) := by decide +kernel
theorem dX4_night_82 : decode cX4_night 82 = .ok (.iconst 0, 1) := by decide +kernel
theorem dX4_night_83 : decode cX4_night 83 = .ok (.putfield 234, 3) := by decide +kernel
theorem dX4_night_86 : decode cX4_night 86 = .ok (.aload_n 0, 1) := by decide +kernel
theorem dX4_night_87 : decode cX4_night 87 = .ok (.getfield 234, 3) := by decide +kernel
theorem dX4_night_90 : decode cX4_night 90 = .ok (.ifCond .eq 7, 3) := by decide +kernel
theorem dX4_night_93 : decode cX4_night 93 = .ok (.aload_n 0, 1) := by decide +kernel
theorem dX4_night_94 : decode cX4_night 94 = .ok (.invokevirtual 316, 3) := by decide +kernel
theorem dX4_night_97 : decode cX4_night 97 = .ok (.aload_n 0, 1) := by decide +kernel
theorem dX4_night_98 : decode cX4_night 98 = .ok (.iconst 0, 1) := by decide +kernel
theorem dX4_night_99 : decode cX4_night 99 = .ok (.putfield 207, 3) := by decide +kernel
theorem dX4_night_102 : decode cX4_night 102 = .ok (.aload_n 0, 1) := by decide +kernel
theorem dX4_night_103 : decode cX4_night 103 = .ok (.getfield 234, 3) := by decide +kernel
theorem dX4_night_106 : decode cX4_night 106 = .ok (.ifCond .eq 12, 3) := by decide +kernel
theorem dX4_night_109 : decode cX4_night 109 = .ok (.iconst (-1), 1) := by decide +kernel
theorem dX4_night_110 : decode cX4_night 110 = .ok (.aload_n 0, 1) := by decide +kernel
theorem dX4_night_111 : decode cX4_night 111 = .ok (.getfield 222, 3) := by decide +kernel
theorem dX4_night_114 : decode cX4_night 114 = .ok (.isub, 1) := by decide +kernel
theorem dX4_night_115 : decode cX4_night 115 = .ok (.goto 4, 3) := by decide +kernel
theorem dX4_night_118 : decode cX4_night 118 = .ok (.iload_n 1, 1) := by decide +kernel
theorem dX4_night_119 : decode cX4_night 119 = .ok (.ireturn, 1) := by decide +kernel
theorem dX4_isOne_0 : decode cX4_isOne 0 = .ok (.iload_n 0, 1) := by decide +kernel
theorem dX4_isOne_1 : decode cX4_isOne 1 = .ok (.i2l, 1) := by decide +kernel
theorem dX4_isOne_2 : decode cX4_isOne 2 = .ok (.lconst 0, 1) := by decide +kernel
theorem dX4_isOne_3 : decode cX4_isOne 3 = .ok (.ldc2_w 116, 3) := by decide +kernel
theorem dX4_isOne_6 : decode cX4_isOne 6 = .ok (.invokestatic 49, 3) := by decide +kernel
theorem dX4_isOne_9 : decode cX4_isOne 9 = .ok (.ireturn, 1) := by decide +kernel
theorem dX4_sheet_0 : decode cX4_sheet 0 = .ok (.iload_n 1, 1) := by decide +kernel
theorem dX4_sheet_1 : decode cX4_sheet 1 = .ok (.invokestatic 319, 3) := by decide +kernel
theorem dX4_sheet_4 : decode cX4_sheet 4 = .ok (.ifCond .eq 25, 3) := by decide +kernel
theorem dX4_sheet_7 : decode cX4_sheet 7 = .ok (.iload_n 2, 1) := by decide +kernel
theorem dX4_sheet_8 : decode cX4_sheet 8 = .ok (.ifCond .eq 28, 3) := by decide +kernel
theorem dX4_sheet_11 : decode cX4_sheet 11 = .ok (.iload_n 2, 1) := by decide +kernel
theorem dX4_sheet_12 : decode cX4_sheet 12 = .ok (.bipush 8, 2) := by decide +kernel
theorem dX4_sheet_14 : decode cX4_sheet 14 = .ok (.if_icmp .eq 22, 3) := by decide +kernel
theorem dX4_sheet_17 : decode cX4_sheet 17 = .ok (.iload_n 2, 1) := by decide +kernel
theorem dX4_sheet_18 : decode cX4_sheet 18 = .ok (.bipush 16, 2) := by decide +kernel
theorem dX4_sheet_20 : decode cX4_sheet 20 = .ok (.if_icmp .eq 16, 3) := by decide +kernel
theorem dX4_sheet_23 : decode cX4_sheet 23 = .ok (.iload_n 2, 1) := by decide +kernel
theorem dX4_sheet_24 : decode cX4_sheet 24 = .ok (.bipush 64, 2) := by decide +kernel
theorem dX4_sheet_26 : decode cX4_sheet 26 = .ok (.if_icmp .eq 10, 3) := by decide +kernel
theorem dX4_sheet_29 : decode cX4_sheet 29 = .ok (.aload_n 0, 1) := by decide +kernel
theorem dX4_sheet_30 : decode cX4_sheet 30 = .ok (.ldc 44, 2) := by decide +kernel
theorem dX4_sheet_32 : decode cX4_sheet 32 = .ok (.invokevirtual 63, 3) := by decide +kernel
theorem dX4_sheet_35 : decode cX4_sheet 35 = .ok (.ireturn, 1) := by decide +kernel
theorem dX4_sheet_36 : decode cX4_sheet 36 = .ok (.iload_n 3, 1) := by decide +kernel
theorem dX4_sheet_37 : decode cX4_sheet 37 = .ok (.ifCond .ge 11, 3) := by decide +kernel
theorem dX4_sheet_40 : decode cX4_sheet 40 = .ok (.aload_n 0, 1) := by decide +kernel
theorem dX4_sheet_41 : decode cX4_sheet 41 = .ok (.ldc_w 322, 3) := by decide +kernel
theorem dX4_sheet_44 : decode cX4_sheet 44 = .ok (.invokevirtual 63, 3) := by decide +kernel
theorem dX4_sheet_47 : decode cX4_sheet 47 = .ok (.ireturn, 1) := by decide +kernel
theorem dX4_sheet_48 : decode cX4_sheet 48 = .ok (.iload_n 3, 1) := by decide +kernel
theorem dX4_sheet_49 : decode cX4_sheet 49 = .ok (.bipush 40, 2) := by decide +kernel
theorem dX4_sheet_51 : decode cX4_sheet 51 = .ok (.if_icmp .le 10, 3) := by decide +kernel
theorem dX4_sheet_54 : decode cX4_sheet 54 = .ok (.aload_n 0, 1) := by decide +kernel
theorem dX4_sheet_55 : decode cX4_sheet 55 = .ok (.ldc 44, 2) := by decide +kernel
theorem dX4_sheet_57 : decode cX4_sheet 57 = .ok (.invokevirtual 63, 3) := by decide +kernel
theorem dX4_sheet_60 : decode cX4_sheet 60 = .ok (.ireturn, 1) := by decide +kernel
theorem dX4_sheet_61 : decode cX4_sheet 61 = .ok (.aload_n 0, 1) := by decide +kernel
theorem dX4_sheet_62 : decode cX4_sheet 62 = .ok (.getfield 31, 3) := by decide +kernel
theorem dX4_sheet_65 : decode cX4_sheet 65 = .ok (.iload_n 1, 1) := by decide +kernel
theorem dX4_sheet_66 : decode cX4_sheet 66 = .ok (.iload_n 2, 1) := by decide +kernel
theorem dX4_sheet_67 : decode cX4_sheet 67 = .ok (.iastore, 1) := by decide +kernel
theorem dX4_sheet_68 : decode cX4_sheet 68 = .ok (.aload_n 0, 1) := by decide +kernel
theorem dX4_sheet_69 : decode cX4_sheet 69 = .ok (.getfield 34, 3) := by decide +kernel
theorem dX4_sheet_72 : decode cX4_sheet 72 = .ok (.iload_n 1, 1) := by decide +kernel
theorem dX4_sheet_73 : decode cX4_sheet 73 = .ok (.iload_n 2, 1) := by decide +kernel
theorem dX4_sheet_74 : decode cX4_sheet 74 = .ok (.ifCond .ne 7, 3) := by decide +kernel
theorem dX4_sheet_77 : decode cX4_sheet 77 = .ok (.iconst 0, 1) := by decide +kernel
theorem dX4_sheet_78 : decode cX4_sheet 78 = .ok (.goto 4, 3) := by decide +kernel
theorem dX4_sheet_81 : decode cX4_sheet 81 = .ok (.iload_n 3, 1) := by decide +kernel
theorem dX4_sheet_82 : decode cX4_sheet 82 = .ok (.iastore, 1) := by decide +kernel
theorem dX4_sheet_83 : decode cX4_sheet 83 = .ok (.iconst 0, 1) := by decide +kernel
theorem dX4_sheet_84 : decode cX4_sheet 84 = .ok (.istore 4, 2) := by decide +kernel
theorem dX4_sheet_86 : decode cX4_sheet 86 = .ok (.iload 4, 2) := by decide +kernel
theorem dX4_sheet_88 : decode cX4_sheet 88 = .ok (.bipush 40, 2) := by decide +kernel
theorem dX4_sheet_90 : decode cX4_sheet 90 = .ok (.if_icmp .ge 22, 3) := by decide +kernel
theorem dX4_sheet_93 : decode cX4_sheet 93 = .ok (.aload_n 0, 1) := by decide +kernel
theorem dX4_sheet_94 : decode cX4_sheet 94 = .ok (.getfield 37, 3) := by decide +kernel
theorem dX4_sheet_97 : decode cX4_sheet 97 = .ok (.bipush 40, 2) := by decide +kernel
theorem dX4_sheet_99 : decode cX4_sheet 99 = .ok (.iload_n 1, 1) := by decide +kernel
theorem dX4_sheet_100 : decode cX4_sheet 100 = .ok (.imul, 1) := by decide +kernel
theorem dX4_sheet_101 : decode cX4_sheet 101 = .ok (.iload 4, 2) := by decide +kernel
theorem dX4_sheet_103 : decode cX4_sheet 103 = .ok (.iadd, 1) := by decide +kernel
theorem dX4_sheet_104 : decode cX4_sheet 104 = .ok (.lconst 0, 1) := by decide +kernel
theorem dX4_sheet_105 : decode cX4_sheet 105 = .ok (.lastore, 1) := by decide +kernel
theorem dX4_sheet_106 : decode cX4_sheet 106 = .ok (.iinc 4 1, 3) := by decide +kernel
theorem dX4_sheet_109 : decode cX4_sheet 109 = .ok (.goto (-23), 3) := by decide +kernel
theorem dX4_sheet_112 : decode cX4_sheet 112 = .ok (.aload_n 0, 1) := by decide +kernel
theorem dX4_sheet_113 : decode cX4_sheet 113 = .ok (.getfield 34, 3) := by decide +kernel
theorem dX4_sheet_116 : decode cX4_sheet 116 = .ok (.iload_n 1, 1) := by decide +kernel
theorem dX4_sheet_117 : decode cX4_sheet 117 = .ok (.iaload, 1) := by decide +kernel
theorem dX4_sheet_118 : decode cX4_sheet 118 = .ok (.ireturn, 1) := by decide +kernel
theorem dX4_narrowed_0 : decode cX4_narrowed 0 = .ok (.iload_n 0, 1) := by decide +kernel
theorem dX4_narrowed_1 : decode cX4_narrowed 1 = .ok (.bipush 8, 2) := by decide +kernel
theorem dX4_narrowed_3 : decode cX4_narrowed 3 = .ok (.if_icmp .ne 10, 3) := by decide +kernel
theorem dX4_narrowed_6 : decode cX4_narrowed 6 = .ok (.lload_n 1, 1) := by decide +kernel
theorem dX4_narrowed_7 : decode cX4_narrowed 7 = .ok (.l2i, 1) := by decide +kernel
theorem dX4_narrowed_8 : decode cX4_narrowed 8 = .ok (.i2b, 1) := by decide +kernel
theorem dX4_narrowed_9 : decode cX4_narrowed 9 = .ok (.i2l, 1) := by decide +kernel
theorem dX4_narrowed_10 : decode cX4_narrowed 10 = .ok (.goto 17, 3) := by decide +kernel
theorem dX4_narrowed_13 : decode cX4_narrowed 13 = .ok (.iload_n 0, 1) := by decide +kernel
theorem dX4_narrowed_14 : decode cX4_narrowed 14 = .ok (.bipush 16, 2) := by decide +kernel
theorem dX4_narrowed_16 : decode cX4_narrowed 16 = .ok (.if_icmp .ne 10, 3) := by decide +kernel
theorem dX4_narrowed_19 : decode cX4_narrowed 19 = .ok (.lload_n 1, 1) := by decide +kernel
theorem dX4_narrowed_20 : decode cX4_narrowed 20 = .ok (.l2i, 1) := by decide +kernel
theorem dX4_narrowed_21 : decode cX4_narrowed 21 = .ok (.i2s, 1) := by decide +kernel
theorem dX4_narrowed_22 : decode cX4_narrowed 22 = .ok (.i2l, 1) := by decide +kernel
theorem dX4_narrowed_23 : decode cX4_narrowed 23 = .ok (.goto 4, 3) := by decide +kernel
theorem dX4_narrowed_26 : decode cX4_narrowed 26 = .ok (.lload_n 1, 1) := by decide +kernel
theorem dX4_narrowed_27 : decode cX4_narrowed 27 = .ok (.lreturn, 1) := by decide +kernel
theorem dX4_wrongSheet_0 : decode cX4_wrongSheet 0 = .ok (.iload_n 1, 1) := by decide +kernel
theorem dX4_wrongSheet_1 : decode cX4_wrongSheet 1 = .ok (.invokestatic 319, 3) := by decide +kernel
theorem dX4_wrongSheet_4 : decode cX4_wrongSheet 4 = .ok (.ifCond .ne 8, 3) := by decide +kernel
theorem dX4_wrongSheet_7 : decode cX4_wrongSheet 7 = .ok (.ldc 44, 2) := by decide +kernel
theorem dX4_wrongSheet_9 : decode cX4_wrongSheet 9 = .ok (.goto 19, 3) := by decide +kernel
theorem dX4_wrongSheet_12 : decode cX4_wrongSheet 12 = .ok (.aload_n 0, 1) := by decide +kernel
theorem dX4_wrongSheet_13 : decode cX4_wrongSheet 13 = .ok (.getfield 31, 3) := by decide +kernel
theorem dX4_wrongSheet_16 : decode cX4_wrongSheet 16 = .ok (.iload_n 1, 1) := by decide +kernel
theorem dX4_wrongSheet_17 : decode cX4_wrongSheet 17 = .ok (.iaload, 1) := by decide +kernel
theorem dX4_wrongSheet_18 : decode cX4_wrongSheet 18 = .ok (.ifCond .ne 9, 3) := by decide +kernel
theorem dX4_wrongSheet_21 : decode cX4_wrongSheet 21 = .ok (.ldc_w 323, 3) := by decide +kernel
theorem dX4_wrongSheet_24 : decode cX4_wrongSheet 24 = .ok (.goto 4, 3) := by decide +kernel
theorem dX4_wrongSheet_27 : decode cX4_wrongSheet 27 = .ok (.iconst 0, 1) := by decide +kernel
theorem dX4_wrongSheet_28 : decode cX4_wrongSheet 28 = .ok (.ireturn, 1) := by decide +kernel
theorem dX4_write_0 : decode cX4_write 0 = .ok (.aload_n 0, 1) := by decide +kernel
theorem dX4_write_1 : decode cX4_write 1 = .ok (.iload_n 1, 1) := by decide +kernel
theorem dX4_write_2 : decode cX4_write 2 = .ok (.invokevirtual 324, 3) := by decide +kernel
theorem dX4_write_5 : decode cX4_write 5 = .ok (.istore 5, 2) := by decide +kernel
theorem dX4_write_7 : decode cX4_write 7 = .ok (.iload 5, 2) := by decide +kernel
theorem dX4_write_9 : decode cX4_write 9 = .ok (.ifCond .eq 11, 3) := by decide +kernel
theorem dX4_write_12 : decode cX4_write 12 = .ok (.aload_n 0, 1) := by decide +kernel
theorem dX4_write_13 : decode cX4_write 13 = .ok (.iload 5, 2) := by decide +kernel
theorem dX4_write_15 : decode cX4_write 15 = .ok (.invokevirtual 63, 3) := by decide +kernel
theorem dX4_write_18 : decode cX4_write 18 = .ok (.i2l, 1) := by decide +kernel
theorem dX4_write_19 : decode cX4_write 19 = .ok (.lreturn, 1) := by decide +kernel
theorem dX4_write_20 : decode cX4_write 20 = .ok (.iload_n 2, 1) := by decide +kernel
theorem dX4_write_21 : decode cX4_write 21 = .ok (.i2l, 1) := by decide +kernel
theorem dX4_write_22 : decode cX4_write 22 = .ok (.lconst 0, 1) := by decide +kernel
theorem dX4_write_23 : decode cX4_write 23 = .ok (.aload_n 0, 1) := by decide +kernel
theorem dX4_write_24 : decode cX4_write 24 = .ok (.getfield 34, 3) := by decide +kernel
theorem dX4_write_27 : decode cX4_write 27 = .ok (.iload_n 1, 1) := by decide +kernel
theorem dX4_write_28 : decode cX4_write 28 = .ok (.iaload, 1) := by decide +kernel
theorem dX4_write_29 : decode cX4_write 29 = .ok (.iconst 1, 1) := by decide +kernel
theorem dX4_write_30 : decode cX4_write 30 = .ok (.isub, 1) := by decide +kernel
theorem dX4_write_31 : decode cX4_write 31 = .ok (.i2l, 1) := by decide +kernel
theorem dX4_write_32 : decode cX4_write 32 = .ok (.invokestatic 49, 3) := by decide +kernel
theorem dX4_write_35 : decode cX4_write 35 = .ok (.ifCond .ne 11, 3) := by decide +kernel
theorem dX4_write_38 : decode cX4_write 38 = .ok (.aload_n 0, 1) := by decide +kernel
theorem dX4_write_39 : decode cX4_write 39 = .ok (.ldc 44, 2) := by decide +kernel
theorem dX4_write_41 : decode cX4_write 41 = .ok (.invokevirtual 63, 3) := by decide +kernel
theorem dX4_write_44 : decode cX4_write 44 = .ok (.i2l, 1) := by decide +kernel
theorem dX4_write_45 : decode cX4_write 45 = .ok (.lreturn, 1) := by decide +kernel
theorem dX4_write_46 : decode cX4_write 46 = .ok (.aload_n 0, 1) := by decide +kernel
theorem dX4_write_47 : decode cX4_write 47 = .ok (.getfield 37, 3) := by decide +kernel
theorem dX4_write_50 : decode cX4_write 50 = .ok (.bipush 40, 2) := by decide +kernel
theorem dX4_write_52 : decode cX4_write 52 = .ok (.iload_n 1, 1) := by decide +kernel
theorem dX4_write_53 : decode cX4_write 53 = .ok (.imul, 1) := by decide +kernel
theorem dX4_write_54 : decode cX4_write 54 = .ok (.iload_n 2, 1) := by decide +kernel
theorem dX4_write_55 : decode cX4_write 55 = .ok (.iadd, 1) := by decide +kernel
theorem dX4_write_56 : decode cX4_write 56 = .ok (.laload, 1) := by decide +kernel
theorem dX4_write_57 : decode cX4_write 57 = .ok (.lstore 6, 2) := by decide +kernel
theorem dX4_write_59 : decode cX4_write 59 = .ok (.aload_n 0, 1) := by decide +kernel
theorem dX4_write_60 : decode cX4_write 60 = .ok (.getfield 37, 3) := by decide +kernel
theorem dX4_write_63 : decode cX4_write 63 = .ok (.bipush 40, 2) := by decide +kernel
theorem dX4_write_65 : decode cX4_write 65 = .ok (.iload_n 1, 1) := by decide +kernel
theorem dX4_write_66 : decode cX4_write 66 = .ok (.imul, 1) := by decide +kernel
theorem dX4_write_67 : decode cX4_write 67 = .ok (.iload_n 2, 1) := by decide +kernel
theorem dX4_write_68 : decode cX4_write 68 = .ok (.iadd, 1) := by decide +kernel
theorem dX4_write_69 : decode cX4_write 69 = .ok (.aload_n 0, 1) := by decide +kernel
theorem dX4_write_70 : decode cX4_write 70 = .ok (.getfield 31, 3) := by decide +kernel
theorem dX4_write_73 : decode cX4_write 73 = .ok (.iload_n 1, 1) := by decide +kernel
theorem dX4_write_74 : decode cX4_write 74 = .ok (.iaload, 1) := by decide +kernel
theorem dX4_write_75 : decode cX4_write 75 = .ok (.lload_n 3, 1) := by decide +kernel
theorem dX4_write_76 : decode cX4_write 76 = .ok (.invokestatic 327, 3) := by decide +kernel
theorem dX4_write_79 : decode cX4_write 79 = .ok (.lastore, 1) := by decide +kernel
theorem dX4_write_80 : decode cX4_write 80 = .ok (.lload 6, 2) := by decide +kernel
theorem dX4_write_82 : decode cX4_write 82 = .ok (.lreturn, 1) := by decide +kernel
theorem dX4_copy_0 : decode cX4_copy 0 = .ok (.iload_n 1, 1) := by decide +kernel
theorem dX4_copy_1 : decode cX4_copy 1 = .ok (.invokestatic 319, 3) := by decide +kernel
theorem dX4_copy_4 : decode cX4_copy 4 = .ok (.ifCond .eq 10, 3) := by decide +kernel
theorem dX4_copy_7 : decode cX4_copy 7 = .ok (.iload_n 3, 1) := by decide +kernel
theorem dX4_copy_8 : decode cX4_copy 8 = .ok (.invokestatic 319, 3) := by decide +kernel
theorem dX4_copy_11 : decode cX4_copy 11 = .ok (.ifCond .ne 10, 3) := by decide +kernel
theorem dX4_copy_14 : decode cX4_copy 14 = .ok (.aload_n 0, 1) := by decide +kernel
theorem dX4_copy_15 : decode cX4_copy 15 = .ok (.ldc 44, 2) := by decide +kernel
theorem dX4_copy_17 : decode cX4_copy 17 = .ok (.invokevirtual 63, 3) := by decide +kernel
theorem dX4_copy_20 : decode cX4_copy 20 = .ok (.ireturn, 1) := by decide +kernel
theorem dX4_copy_21 : decode cX4_copy 21 = .ok (.aload_n 0, 1) := by decide +kernel
theorem dX4_copy_22 : decode cX4_copy 22 = .ok (.getfield 31, 3) := by decide +kernel
theorem dX4_copy_25 : decode cX4_copy 25 = .ok (.iload_n 1, 1) := by decide +kernel
theorem dX4_copy_26 : decode cX4_copy 26 = .ok (.iaload, 1) := by decide +kernel
theorem dX4_copy_27 : decode cX4_copy 27 = .ok (.ifCond .eq 12, 3) := by decide +kernel
theorem dX4_copy_30 : decode cX4_copy 30 = .ok (.aload_n 0, 1) := by decide +kernel
theorem dX4_copy_31 : decode cX4_copy 31 = .ok (.getfield 31, 3) := by decide +kernel
theorem dX4_copy_34 : decode cX4_copy 34 = .ok (.iload_n 3, 1) := by decide +kernel
theorem dX4_copy_35 : decode cX4_copy 35 = .ok (.iaload, 1) := by decide +kernel
theorem dX4_copy_36 : decode cX4_copy 36 = .ok (.ifCond .ne 11, 3) := by decide +kernel
theorem dX4_copy_39 : decode cX4_copy 39 = .ok (.aload_n 0, 1) := by decide +kernel
theorem dX4_copy_40 : decode cX4_copy 40 = .ok (.ldc_w 323, 3) := by decide +kernel
theorem dX4_copy_43 : decode cX4_copy 43 = .ok (.invokevirtual 63, 3) := by decide +kernel
theorem dX4_copy_46 : decode cX4_copy 46 = .ok (.ireturn, 1) := by decide +kernel
theorem dX4_copy_47 : decode cX4_copy 47 = .ok (.aload_n 0, 1) := by decide +kernel
theorem dX4_copy_48 : decode cX4_copy 48 = .ok (.getfield 31, 3) := by decide +kernel
theorem dX4_copy_51 : decode cX4_copy 51 = .ok (.iload_n 1, 1) := by decide +kernel
theorem dX4_copy_52 : decode cX4_copy 52 = .ok (.iaload, 1) := by decide +kernel
theorem dX4_copy_53 : decode cX4_copy 53 = .ok (.aload_n 0, 1) := by decide +kernel
theorem dX4_copy_54 : decode cX4_copy 54 = .ok (.getfield 31, 3) := by decide +kernel
theorem dX4_copy_57 : decode cX4_copy 57 = .ok (.iload_n 3, 1) := by decide +kernel
theorem dX4_copy_58 : decode cX4_copy 58 = .ok (.iaload, 1) := by decide +kernel
theorem dX4_copy_59 : decode cX4_copy 59 = .ok (.if_icmp .eq 10, 3) := by decide +kernel
theorem dX4_copy_62 : decode cX4_copy 62 = .ok (.aload_n 0, 1) := by decide +kernel
theorem dX4_copy_63 : decode cX4_copy 63 = .ok (.ldc 148, 2) := by decide +kernel
theorem dX4_copy_65 : decode cX4_copy 65 = .ok (.invokevirtual 63, 3) := by decide +kernel
theorem dX4_copy_68 : decode cX4_copy 68 = .ok (.ireturn, 1) := by decide +kernel
theorem dX4_copy_69 : decode cX4_copy 69 = .ok (.iload_n 2, 1) := by decide +kernel
theorem dX4_copy_70 : decode cX4_copy 70 = .ok (.ifCond .lt 40, 3) := by decide +kernel
theorem dX4_copy_73 : decode cX4_copy 73 = .ok (.iload 4, 2) := by decide +kernel
theorem dX4_copy_75 : decode cX4_copy 75 = .ok (.ifCond .lt 35, 3) := by decide +kernel
theorem dX4_copy_78 : decode cX4_copy 78 = .ok (.iload 5, 2) := by decide +kernel
theorem dX4_copy_80 : decode cX4_copy 80 = .ok (.ifCond .lt 30, 3) := by decide +kernel
theorem dX4_copy_83 : decode cX4_copy 83 = .ok (.iload 5, 2) := by decide +kernel
theorem dX4_copy_85 : decode cX4_copy 85 = .ok (.aload_n 0, 1) := by decide +kernel
theorem dX4_copy_86 : decode cX4_copy 86 = .ok (.getfield 34, 3) := by decide +kernel
theorem dX4_copy_89 : decode cX4_copy 89 = .ok (.iload_n 1, 1) := by decide +kernel
theorem dX4_copy_90 : decode cX4_copy 90 = .ok (.iaload, 1) := by decide +kernel
theorem dX4_copy_91 : decode cX4_copy 91 = .ok (.iload_n 2, 1) := by decide +kernel
theorem dX4_copy_92 : decode cX4_copy 92 = .ok (.isub, 1) := by decide +kernel
theorem dX4_copy_93 : decode cX4_copy 93 = .ok (.if_icmp .gt 17, 3) := by decide +kernel
theorem dX4_copy_96 : decode cX4_copy 96 = .ok (.iload 5, 2) := by decide +kernel
theorem dX4_copy_98 : decode cX4_copy 98 = .ok (.aload_n 0, 1) := by decide +kernel
theorem dX4_copy_99 : decode cX4_copy 99 = .ok (.getfield 34, 3) := by decide +kernel
theorem dX4_copy_102 : decode cX4_copy 102 = .ok (.iload_n 3, 1) := by decide +kernel
theorem dX4_copy_103 : decode cX4_copy 103 = .ok (.iaload, 1) := by decide +kernel
theorem dX4_copy_104 : decode cX4_copy 104 = .ok (.iload 4, 2) := by decide +kernel
theorem dX4_copy_106 : decode cX4_copy 106 = .ok (.isub, 1) := by decide +kernel
theorem dX4_copy_107 : decode cX4_copy 107 = .ok (.if_icmp .le 10, 3) := by decide +kernel
theorem dX4_copy_110 : decode cX4_copy 110 = .ok (.aload_n 0, 1) := by decide +kernel
theorem dX4_copy_111 : decode cX4_copy 111 = .ok (.ldc 44, 2) := by decide +kernel
theorem dX4_copy_113 : decode cX4_copy 113 = .ok (.invokevirtual 63, 3) := by decide +kernel
theorem dX4_copy_116 : decode cX4_copy 116 = .ok (.ireturn, 1) := by decide +kernel
theorem dX4_copy_117 : decode cX4_copy 117 = .ok (.iconst 0, 1) := by decide +kernel
theorem dX4_copy_118 : decode cX4_copy 118 = .ok (.istore 6, 2) := by decide +kernel
theorem dX4_copy_120 : decode cX4_copy 120 = .ok (.iload 6, 2) := by decide +kernel
theorem dX4_copy_122 : decode cX4_copy 122 = .ok (.iload 5, 2) := by decide +kernel
theorem dX4_copy_124 : decode cX4_copy 124 = .ok (.if_icmp .ge 30, 3) := by decide +kernel
theorem dX4_copy_127 : decode cX4_copy 127 = .ok (.aload_n 0, 1) := by decide +kernel
theorem dX4_copy_128 : decode cX4_copy 128 = .ok (.getfield 41, 3) := by decide +kernel
theorem dX4_copy_131 : decode cX4_copy 131 = .ok (.iload 6, 2) := by decide +kernel
theorem dX4_copy_133 : decode cX4_copy 133 = .ok (.aload_n 0, 1) := by decide +kernel
theorem dX4_copy_134 : decode cX4_copy 134 = .ok (.getfield 37, 3) := by decide +kernel
theorem dX4_copy_137 : decode cX4_copy 137 = .ok (.bipush 40, 2) := by decide +kernel
theorem dX4_copy_139 : decode cX4_copy 139 = .ok (.iload_n 1, 1) := by decide +kernel
theorem dX4_copy_140 : decode cX4_copy 140 = .ok (.imul, 1) := by decide +kernel
theorem dX4_copy_141 : decode cX4_copy 141 = .ok (.iload_n 2, 1) := by decide +kernel
theorem dX4_copy_142 : decode cX4_copy 142 = .ok (.iadd, 1) := by decide +kernel
theorem dX4_copy_143 : decode cX4_copy 143 = .ok (.iload 6, 2) := by decide +kernel
theorem dX4_copy_145 : decode cX4_copy 145 = .ok (.iadd, 1) := by decide +kernel
theorem dX4_copy_146 : decode cX4_copy 146 = .ok (.laload, 1) := by decide +kernel
theorem dX4_copy_147 : decode cX4_copy 147 = .ok (.lastore, 1) := by decide +kernel
theorem dX4_copy_148 : decode cX4_copy 148 = .ok (.iinc 6 1, 3) := by decide +kernel
theorem dX4_copy_151 : decode cX4_copy 151 = .ok (.goto (-31), 3) := by decide +kernel
theorem dX4_copy_154 : decode cX4_copy 154 = .ok (.iconst 0, 1) := by decide +kernel
theorem dX4_copy_155 : decode cX4_copy 155 = .ok (.istore 6, 2) := by decide +kernel
theorem dX4_copy_157 : decode cX4_copy 157 = .ok (.iload 6, 2) := by decide +kernel
theorem dX4_copy_159 : decode cX4_copy 159 = .ok (.iload 5, 2) := by decide +kernel
theorem dX4_copy_161 : decode cX4_copy 161 = .ok (.if_icmp .ge 31, 3) := by decide +kernel
theorem dX4_copy_164 : decode cX4_copy 164 = .ok (.aload_n 0, 1) := by decide +kernel
theorem dX4_copy_165 : decode cX4_copy 165 = .ok (.getfield 37, 3) := by decide +kernel
theorem dX4_copy_168 : decode cX4_copy 168 = .ok (.bipush 40, 2) := by decide +kernel
theorem dX4_copy_170 : decode cX4_copy 170 = .ok (.iload_n 3, 1) := by decide +kernel
theorem dX4_copy_171 : decode cX4_copy 171 = .ok (.imul, 1) := by decide +kernel
theorem dX4_copy_172 : decode cX4_copy 172 = .ok (.iload 4, 2) := by decide +kernel
theorem dX4_copy_174 : decode cX4_copy 174 = .ok (.iadd, 1) := by decide +kernel
theorem dX4_copy_175 : decode cX4_copy 175 = .ok (.iload 6, 2) := by decide +kernel
theorem dX4_copy_177 : decode cX4_copy 177 = .ok (.iadd, 1) := by decide +kernel
theorem dX4_copy_178 : decode cX4_copy 178 = .ok (.aload_n 0, 1) := by decide +kernel
theorem dX4_copy_179 : decode cX4_copy 179 = .ok (.getfield 41, 3) := by decide +kernel
theorem dX4_copy_182 : decode cX4_copy 182 = .ok (.iload 6, 2) := by decide +kernel
theorem dX4_copy_184 : decode cX4_copy 184 = .ok (.laload, 1) := by decide +kernel
theorem dX4_copy_185 : decode cX4_copy 185 = .ok (.lastore, 1) := by decide +kernel
theorem dX4_copy_186 : decode cX4_copy 186 = .ok (.iinc 6 1, 3) := by decide +kernel
theorem dX4_copy_189 : decode cX4_copy 189 = .ok (.goto (-32), 3) := by decide +kernel
theorem dX4_copy_192 : decode cX4_copy 192 = .ok (.iload 5, 2) := by decide +kernel
theorem dX4_copy_194 : decode cX4_copy 194 = .ok (.ireturn, 1) := by decide +kernel
theorem dX4_lays_0 : decode cX4_lays 0 = .ok (.aload_n 0, 1) := by decide +kernel
theorem dX4_lays_1 : decode cX4_lays 1 = .ok (.iload_n 1, 1) := by decide +kernel
theorem dX4_lays_2 : decode cX4_lays 2 = .ok (.invokevirtual 324, 3) := by decide +kernel
theorem dX4_lays_5 : decode cX4_lays 5 = .ok (.istore_n 2, 1) := by decide +kernel
theorem dX4_lays_6 : decode cX4_lays 6 = .ok (.iload_n 2, 1) := by decide +kernel
theorem dX4_lays_7 : decode cX4_lays 7 = .ok (.ifCond .eq 9, 3) := by decide +kernel
theorem dX4_lays_10 : decode cX4_lays 10 = .ok (.aload_n 0, 1) := by decide +kernel
theorem dX4_lays_11 : decode cX4_lays 11 = .ok (.iload_n 2, 1) := by decide +kernel
theorem dX4_lays_12 : decode cX4_lays 12 = .ok (.invokevirtual 63, 3) := by decide +kernel
theorem dX4_lays_15 : decode cX4_lays 15 = .ok (.ireturn, 1) := by decide +kernel
theorem dX4_lays_16 : decode cX4_lays 16 = .ok (.iconst 0, 1) := by decide +kernel
theorem dX4_lays_17 : decode cX4_lays 17 = .ok (.istore_n 3, 1) := by decide +kernel
theorem dX4_lays_18 : decode cX4_lays 18 = .ok (.iconst 0, 1) := by decide +kernel
theorem dX4_lays_19 : decode cX4_lays 19 = .ok (.istore 4, 2) := by decide +kernel
theorem dX4_lays_21 : decode cX4_lays 21 = .ok (.iload 4, 2) := by decide +kernel
theorem dX4_lays_23 : decode cX4_lays 23 = .ok (.aload_n 0, 1) := by decide +kernel
theorem dX4_lays_24 : decode cX4_lays 24 = .ok (.getfield 34, 3) := by decide +kernel
theorem dX4_lays_27 : decode cX4_lays 27 = .ok (.iload_n 1, 1) := by decide +kernel
theorem dX4_lays_28 : decode cX4_lays 28 = .ok (.iaload, 1) := by decide +kernel
theorem dX4_lays_29 : decode cX4_lays 29 = .ok (.if_icmp .ge 93, 3) := by decide +kernel
theorem dX4_lays_32 : decode cX4_lays 32 = .ok (.iload 4, 2) := by decide +kernel
theorem dX4_lays_34 : decode cX4_lays 34 = .ok (.aload_n 0, 1) := by decide +kernel
theorem dX4_lays_35 : decode cX4_lays 35 = .ok (.getfield 7, 3) := by decide +kernel
theorem dX4_lays_38 : decode cX4_lays 38 = .ok (.iconst 1, 1) := by decide +kernel
theorem dX4_lays_39 : decode cX4_lays 39 = .ok (.iaload, 1) := by decide +kernel
theorem dX4_lays_40 : decode cX4_lays 40 = .ok (.if_icmp .ge 82, 3) := by decide +kernel
theorem dX4_lays_43 : decode cX4_lays 43 = .ok (.aload_n 0, 1) := by decide +kernel
theorem dX4_lays_44 : decode cX4_lays 44 = .ok (.getfield 37, 3) := by decide +kernel
theorem dX4_lays_47 : decode cX4_lays 47 = .ok (.bipush 40, 2) := by decide +kernel
theorem dX4_lays_49 : decode cX4_lays 49 = .ok (.iload_n 1, 1) := by decide +kernel
theorem dX4_lays_50 : decode cX4_lays 50 = .ok (.imul, 1) := by decide +kernel
theorem dX4_lays_51 : decode cX4_lays 51 = .ok (.iload 4, 2) := by decide +kernel
theorem dX4_lays_53 : decode cX4_lays 53 = .ok (.iadd, 1) := by decide +kernel
theorem dX4_lays_54 : decode cX4_lays 54 = .ok (.laload, 1) := by decide +kernel
theorem dX4_lays_55 : decode cX4_lays 55 = .ok (.lconst 0, 1) := by decide +kernel
theorem dX4_lays_56 : decode cX4_lays 56 = .ok (.ldc2_w 136, 3) := by decide +kernel
theorem dX4_lays_59 : decode cX4_lays 59 = .ok (.invokestatic 49, 3) := by decide +kernel
theorem dX4_lays_62 : decode cX4_lays 62 = .ok (.istore 5, 2) := by decide +kernel
theorem dX4_lays_64 : decode cX4_lays 64 = .ok (.aload_n 0, 1) := by decide +kernel
theorem dX4_lays_65 : decode cX4_lays 65 = .ok (.getfield 7, 3) := by decide +kernel
theorem dX4_lays_68 : decode cX4_lays 68 = .ok (.iload 4, 2) := by decide +kernel
theorem dX4_lays_70 : decode cX4_lays 70 = .ok (.iconst 3, 1) := by decide +kernel
theorem dX4_lays_71 : decode cX4_lays 71 = .ok (.invokestatic 45, 3) := by decide +kernel
theorem dX4_lays_74 : decode cX4_lays 74 = .ok (.iload 5, 2) := by decide +kernel
theorem dX4_lays_76 : decode cX4_lays 76 = .ok (.ifCond .eq 19, 3) := by decide +kernel
theorem dX4_lays_79 : decode cX4_lays 79 = .ok (.aload_n 0, 1) := by decide +kernel
theorem dX4_lays_80 : decode cX4_lays 80 = .ok (.getfield 37, 3) := by decide +kernel
theorem dX4_lays_83 : decode cX4_lays 83 = .ok (.bipush 40, 2) := by decide +kernel
theorem dX4_lays_85 : decode cX4_lays 85 = .ok (.iload_n 1, 1) := by decide +kernel
theorem dX4_lays_86 : decode cX4_lays 86 = .ok (.imul, 1) := by decide +kernel
theorem dX4_lays_87 : decode cX4_lays 87 = .ok (.iload 4, 2) := by decide +kernel
theorem dX4_lays_89 : decode cX4_lays 89 = .ok (.iadd, 1) := by decide +kernel
theorem dX4_lays_90 : decode cX4_lays 90 = .ok (.laload, 1) := by decide +kernel
theorem dX4_lays_91 : decode cX4_lays 91 = .ok (.l2i, 1) := by decide +kernel
theorem dX4_lays_92 : decode cX4_lays 92 = .ok (.goto 10, 3) := by decide +kernel
theorem dX4_lays_95 : decode cX4_lays 95 = .ok (.aload_n 0, 1) := by decide +kernel
theorem dX4_lays_96 : decode cX4_lays 96 = .ok (.iload 4, 2) := by decide +kernel
theorem dX4_lays_98 : decode cX4_lays 98 = .ok (.iconst 3, 1) := by decide +kernel
theorem dX4_lays_99 : decode cX4_lays 99 = .ok (.invokevirtual 55, 3) := by decide +kernel
theorem dX4_lays_102 : decode cX4_lays 102 = .ok (.iastore, 1) := by decide +kernel
theorem dX4_lays_103 : decode cX4_lays 103 = .ok (.iload_n 3, 1) := by decide +kernel
theorem dX4_lays_104 : decode cX4_lays 104 = .ok (.iload 5, 2) := by decide +kernel
theorem dX4_lays_106 : decode cX4_lays 106 = .ok (.ifCond .eq 7, 3) := by decide +kernel
theorem dX4_lays_109 : decode cX4_lays 109 = .ok (.iconst 1, 1) := by decide +kernel
theorem dX4_lays_110 : decode cX4_lays 110 = .ok (.goto 4, 3) := by decide +kernel
theorem dX4_lays_113 : decode cX4_lays 113 = .ok (.iconst 0, 1) := by decide +kernel
theorem dX4_lays_114 : decode cX4_lays 114 = .ok (.iadd, 1) := by decide +kernel
theorem dX4_lays_115 : decode cX4_lays 115 = .ok (.istore_n 3, 1) := by decide +kernel
theorem dX4_lays_116 : decode cX4_lays 116 = .ok (.iinc 4 1, 3) := by decide +kernel
theorem dX4_lays_119 : decode cX4_lays 119 = .ok (.goto (-98), 3) := by decide +kernel
theorem dX4_lays_122 : decode cX4_lays 122 = .ok (.iload_n 3, 1) := by decide +kernel
theorem dX4_lays_123 : decode cX4_lays 123 = .ok (.ireturn, 1) := by decide +kernel
theorem dX4_booked_0 : decode cX4_booked 0 = .ok (.bipush 100, 2) := by decide +kernel
theorem dX4_booked_2 : decode cX4_booked 2 = .ok (.aload_n 0, 1) := by decide +kernel
theorem dX4_booked_3 : decode cX4_booked 3 = .ok (.iload_n 1, 1) := by decide +kernel
theorem dX4_booked_4 : decode cX4_booked 4 = .ok (.iconst 2, 1) := by decide +kernel
theorem dX4_booked_5 : decode cX4_booked 5 = .ok (.invokevirtual 55, 3) := by decide +kernel
theorem dX4_booked_8 : decode cX4_booked 8 = .ok (.imul, 1) := by decide +kernel
theorem dX4_booked_9 : decode cX4_booked 9 = .ok (.aload_n 0, 1) := by decide +kernel
theorem dX4_booked_10 : decode cX4_booked 10 = .ok (.iload_n 1, 1) := by decide +kernel
theorem dX4_booked_11 : decode cX4_booked 11 = .ok (.iconst 3, 1) := by decide +kernel
theorem dX4_booked_12 : decode cX4_booked 12 = .ok (.invokevirtual 55, 3) := by decide +kernel
theorem dX4_booked_15 : decode cX4_booked 15 = .ok (.iadd, 1) := by decide +kernel
theorem dX4_booked_16 : decode cX4_booked 16 = .ok (.ireturn, 1) := by decide +kernel
theorem dX4_book_0 : decode cX4_book 0 = .ok (.aload_n 0, 1) := by decide +kernel
theorem dX4_book_1 : decode cX4_book 1 = .ok (.iload_n 1, 1) := by decide +kernel
theorem dX4_book_2 : decode cX4_book 2 = .ok (.invokevirtual 324, 3) := by decide +kernel
theorem dX4_book_5 : decode cX4_book 5 = .ok (.istore_n 3, 1) := by decide +kernel
theorem dX4_book_6 : decode cX4_book 6 = .ok (.iload_n 3, 1) := by decide +kernel
theorem dX4_book_7 : decode cX4_book 7 = .ok (.ifCond .eq 9, 3) := by decide +kernel
theorem dX4_book_10 : decode cX4_book 10 = .ok (.aload_n 0, 1) := by decide +kernel
theorem dX4_book_11 : decode cX4_book 11 = .ok (.iload_n 3, 1) := by decide +kernel
theorem dX4_book_12 : decode cX4_book 12 = .ok (.invokevirtual 63, 3) := by decide +kernel
theorem dX4_book_15 : decode cX4_book 15 = .ok (.ireturn, 1) := by decide +kernel
theorem dX4_book_16 : decode cX4_book 16 = .ok (.aload_n 0, 1) := by decide +kernel
theorem dX4_book_17 : decode cX4_book 17 = .ok (.iload_n 2, 1) := by decide +kernel
theorem dX4_book_18 : decode cX4_book 18 = .ok (.invokevirtual 128, 3) := by decide +kernel
theorem dX4_book_21 : decode cX4_book 21 = .ok (.ifCond .ne 10, 3) := by decide +kernel
theorem dX4_book_24 : decode cX4_book 24 = .ok (.aload_n 0, 1) := by decide +kernel
theorem dX4_book_25 : decode cX4_book 25 = .ok (.ldc 44, 2) := by decide +kernel
theorem dX4_book_27 : decode cX4_book 27 = .ok (.invokevirtual 63, 3) := by decide +kernel
theorem dX4_book_30 : decode cX4_book 30 = .ok (.ireturn, 1) := by decide +kernel
theorem dX4_book_31 : decode cX4_book 31 = .ok (.aload_n 0, 1) := by decide +kernel
theorem dX4_book_32 : decode cX4_book 32 = .ok (.invokevirtual 171, 3) := by decide +kernel
theorem dX4_book_35 : decode cX4_book 35 = .ok (.iconst 0, 1) := by decide +kernel
theorem dX4_book_36 : decode cX4_book 36 = .ok (.istore 4, 2) := by decide +kernel
theorem dX4_book_38 : decode cX4_book 38 = .ok (.iload 4, 2) := by decide +kernel
theorem dX4_book_40 : decode cX4_book 40 = .ok (.aload_n 0, 1) := by decide +kernel
theorem dX4_book_41 : decode cX4_book 41 = .ok (.getfield 34, 3) := by decide +kernel
theorem dX4_book_44 : decode cX4_book 44 = .ok (.iload_n 1, 1) := by decide +kernel
theorem dX4_book_45 : decode cX4_book 45 = .ok (.iaload, 1) := by decide +kernel
theorem dX4_book_46 : decode cX4_book 46 = .ok (.if_icmp .ge 40, 3) := by decide +kernel
theorem dX4_book_49 : decode cX4_book 49 = .ok (.aload_n 0, 1) := by decide +kernel
theorem dX4_book_50 : decode cX4_book 50 = .ok (.getfield 37, 3) := by decide +kernel
theorem dX4_book_53 : decode cX4_book 53 = .ok (.bipush 40, 2) := by decide +kernel
theorem dX4_book_55 : decode cX4_book 55 = .ok (.iload_n 1, 1) := by decide +kernel
theorem dX4_book_56 : decode cX4_book 56 = .ok (.imul, 1) := by decide +kernel
theorem dX4_book_57 : decode cX4_book 57 = .ok (.iload 4, 2) := by decide +kernel
theorem dX4_book_59 : decode cX4_book 59 = .ok (.iadd, 1) := by decide +kernel
theorem dX4_book_60 : decode cX4_book 60 = .ok (.aload_n 0, 1) := by decide +kernel
theorem dX4_book_61 : decode cX4_book 61 = .ok (.getfield 31, 3) := by decide +kernel
theorem dX4_book_64 : decode cX4_book 64 = .ok (.iload_n 1, 1) := by decide +kernel
theorem dX4_book_65 : decode cX4_book 65 = .ok (.iaload, 1) := by decide +kernel
theorem dX4_book_66 : decode cX4_book 66 = .ok (.aload_n 0, 1) := by decide +kernel
theorem dX4_book_67 : decode cX4_book 67 = .ok (.iload_n 2, 1) := by decide +kernel
theorem dX4_book_68 : decode cX4_book 68 = .ok (.invokevirtual 331, 3) := by decide +kernel
theorem dX4_book_71 : decode cX4_book 71 = .ok (.i2l, 1) := by decide +kernel
theorem dX4_book_72 : decode cX4_book 72 = .ok (.invokestatic 327, 3) := by decide +kernel
theorem dX4_book_75 : decode cX4_book 75 = .ok (.lastore, 1) := by decide +kernel
theorem dX4_book_76 : decode cX4_book 76 = .ok (.aload_n 0, 1) := by decide +kernel
theorem dX4_book_77 : decode cX4_book 77 = .ok (.invokevirtual 159, 3) := by decide +kernel
theorem dX4_book_80 : decode cX4_book 80 = .ok (.iinc 4 1, 3) := by decide +kernel
theorem dX4_book_83 : decode cX4_book 83 = .ok (.goto (-45), 3) := by decide +kernel
theorem dX4_book_86 : decode cX4_book 86 = .ok (.aload_n 0, 1) := by decide +kernel
theorem dX4_book_87 : decode cX4_book 87 = .ok (.aload_n 0, 1) := by decide +kernel
theorem dX4_book_88 : decode cX4_book 88 = .ok (.getfield 34, 3) := by decide +kernel
theorem dX4_book_91 : decode cX4_book 91 = .ok (.iload_n 1, 1) := by decide +kernel
theorem dX4_book_92 : decode cX4_book 92 = .ok (.iaload, 1) := by decide +kernel
theorem dX4_book_93 : decode cX4_book 93 = .ok (.invokevirtual 174, 3) := by decide +kernel
theorem dX4_book_96 : decode cX4_book 96 = .ok (.ireturn, 1) := by decide +kernel
theorem dX4_isBook_0 : decode cX4_isBook 0 = .ok (.iconst 0, 1) := by decide +kernel
theorem dX4_isBook_1 : decode cX4_isBook 1 = .ok (.istore_n 3, 1) := by decide +kernel
theorem dX4_isBook_2 : decode cX4_isBook 2 = .ok (.iload_n 3, 1) := by decide +kernel
theorem dX4_isBook_3 : decode cX4_isBook 3 = .ok (.aload_n 0, 1) := by decide +kernel
theorem dX4_isBook_4 : decode cX4_isBook 4 = .ok (.getfield 34, 3) := by decide +kernel
theorem dX4_isBook_7 : decode cX4_isBook 7 = .ok (.iload_n 1, 1) := by decide +kernel
theorem dX4_isBook_8 : decode cX4_isBook 8 = .ok (.iaload, 1) := by decide +kernel
theorem dX4_isBook_9 : decode cX4_isBook 9 = .ok (.if_icmp .ge 36, 3) := by decide +kernel
theorem dX4_isBook_12 : decode cX4_isBook 12 = .ok (.aload_n 0, 1) := by decide +kernel
theorem dX4_isBook_13 : decode cX4_isBook 13 = .ok (.getfield 37, 3) := by decide +kernel
theorem dX4_isBook_16 : decode cX4_isBook 16 = .ok (.bipush 40, 2) := by decide +kernel
theorem dX4_isBook_18 : decode cX4_isBook 18 = .ok (.iload_n 1, 1) := by decide +kernel
theorem dX4_isBook_19 : decode cX4_isBook 19 = .ok (.imul, 1) := by decide +kernel
theorem dX4_isBook_20 : decode cX4_isBook 20 = .ok (.iload_n 3, 1) := by decide +kernel
theorem dX4_isBook_21 : decode cX4_isBook 21 = .ok (.iadd, 1) := by decide +kernel
theorem dX4_isBook_22 : decode cX4_isBook 22 = .ok (.laload, 1) := by decide +kernel
theorem dX4_isBook_23 : decode cX4_isBook 23 = .ok (.aload_n 0, 1) := by decide +kernel
theorem dX4_isBook_24 : decode cX4_isBook 24 = .ok (.iload_n 2, 1) := by decide +kernel
theorem dX4_isBook_25 : decode cX4_isBook 25 = .ok (.invokevirtual 331, 3) := by decide +kernel
theorem dX4_isBook_28 : decode cX4_isBook 28 = .ok (.i2l, 1) := by decide +kernel
theorem dX4_isBook_29 : decode cX4_isBook 29 = .ok (.lcmp, 1) := by decide +kernel
theorem dX4_isBook_30 : decode cX4_isBook 30 = .ok (.ifCond .eq 5, 3) := by decide +kernel
theorem dX4_isBook_33 : decode cX4_isBook 33 = .ok (.iconst 0, 1) := by decide +kernel
theorem dX4_isBook_34 : decode cX4_isBook 34 = .ok (.ireturn, 1) := by decide +kernel
theorem dX4_isBook_35 : decode cX4_isBook 35 = .ok (.aload_n 0, 1) := by decide +kernel
theorem dX4_isBook_36 : decode cX4_isBook 36 = .ok (.invokevirtual 159, 3) := by decide +kernel
theorem dX4_isBook_39 : decode cX4_isBook 39 = .ok (.iinc 3 1, 3) := by decide +kernel
theorem dX4_isBook_42 : decode cX4_isBook 42 = .ok (.goto (-40), 3) := by decide +kernel
theorem dX4_isBook_45 : decode cX4_isBook 45 = .ok (.iconst 1, 1) := by decide +kernel
theorem dX4_isBook_46 : decode cX4_isBook 46 = .ok (.ireturn, 1) := by decide +kernel
theorem dX4_read_0 : decode cX4_read 0 = .ok (.aload_n 0, 1) := by decide +kernel
theorem dX4_read_1 : decode cX4_read 1 = .ok (.iload_n 1, 1) := by decide +kernel
theorem dX4_read_2 : decode cX4_read 2 = .ok (.invokevirtual 324, 3) := by decide +kernel
theorem dX4_read_5 : decode cX4_read 5 = .ok (.istore_n 3, 1) := by decide +kernel
theorem dX4_read_6 : decode cX4_read 6 = .ok (.iload_n 3, 1) := by decide +kernel
theorem dX4_read_7 : decode cX4_read 7 = .ok (.ifCond .eq 9, 3) := by decide +kernel
theorem dX4_read_10 : decode cX4_read 10 = .ok (.aload_n 0, 1) := by decide +kernel
theorem dX4_read_11 : decode cX4_read 11 = .ok (.iload_n 3, 1) := by decide +kernel
theorem dX4_read_12 : decode cX4_read 12 = .ok (.invokevirtual 63, 3) := by decide +kernel
theorem dX4_read_15 : decode cX4_read 15 = .ok (.ireturn, 1) := by decide +kernel
theorem dX4_read_16 : decode cX4_read 16 = .ok (.aload_n 0, 1) := by decide +kernel
theorem dX4_read_17 : decode cX4_read 17 = .ok (.iload_n 2, 1) := by decide +kernel
theorem dX4_read_18 : decode cX4_read 18 = .ok (.invokevirtual 128, 3) := by decide +kernel
theorem dX4_read_21 : decode cX4_read 21 = .ok (.ifCond .ne 10, 3) := by decide +kernel
theorem dX4_read_24 : decode cX4_read 24 = .ok (.aload_n 0, 1) := by decide +kernel
theorem dX4_read_25 : decode cX4_read 25 = .ok (.ldc 44, 2) := by decide +kernel
theorem dX4_read_27 : decode cX4_read 27 = .ok (.invokevirtual 63, 3) := by decide +kernel
theorem dX4_read_30 : decode cX4_read 30 = .ok (.ireturn, 1) := by decide +kernel
theorem dX4_read_31 : decode cX4_read 31 = .ok (.aload_n 0, 1) := by decide +kernel
theorem dX4_read_32 : decode cX4_read 32 = .ok (.invokevirtual 171, 3) := by decide +kernel
theorem dX4_read_35 : decode cX4_read 35 = .ok (.iconst 0, 1) := by decide +kernel
theorem dX4_read_36 : decode cX4_read 36 = .ok (.istore 4, 2) := by decide +kernel
theorem dX4_read_38 : decode cX4_read 38 = .ok (.iconst 0, 1) := by decide +kernel
theorem dX4_read_39 : decode cX4_read 39 = .ok (.istore 5, 2) := by decide +kernel
theorem dX4_read_41 : decode cX4_read 41 = .ok (.iload 5, 2) := by decide +kernel
theorem dX4_read_43 : decode cX4_read 43 = .ok (.bipush 30, 2) := by decide +kernel
theorem dX4_read_45 : decode cX4_read 45 = .ok (.if_icmp .ge 60, 3) := by decide +kernel
theorem dX4_read_48 : decode cX4_read 48 = .ok (.aload_n 0, 1) := by decide +kernel
theorem dX4_read_49 : decode cX4_read 49 = .ok (.getfield 7, 3) := by decide +kernel
theorem dX4_read_52 : decode cX4_read 52 = .ok (.iload_n 2, 1) := by decide +kernel
theorem dX4_read_53 : decode cX4_read 53 = .ok (.iconst 0, 1) := by decide +kernel
theorem dX4_read_54 : decode cX4_read 54 = .ok (.invokestatic 45, 3) := by decide +kernel
theorem dX4_read_57 : decode cX4_read 57 = .ok (.iload 5, 2) := by decide +kernel
theorem dX4_read_59 : decode cX4_read 59 = .ok (.iconst 5, 1) := by decide +kernel
theorem dX4_read_60 : decode cX4_read 60 = .ok (.idiv, 1) := by decide +kernel
theorem dX4_read_61 : decode cX4_read 61 = .ok (.iastore, 1) := by decide +kernel
theorem dX4_read_62 : decode cX4_read 62 = .ok (.aload_n 0, 1) := by decide +kernel
theorem dX4_read_63 : decode cX4_read 63 = .ok (.getfield 7, 3) := by decide +kernel
theorem dX4_read_66 : decode cX4_read 66 = .ok (.iload_n 2, 1) := by decide +kernel
theorem dX4_read_67 : decode cX4_read 67 = .ok (.iconst 5, 1) := by decide +kernel
theorem dX4_read_68 : decode cX4_read 68 = .ok (.invokestatic 45, 3) := by decide +kernel
theorem dX4_read_71 : decode cX4_read 71 = .ok (.iload 5, 2) := by decide +kernel
theorem dX4_read_73 : decode cX4_read 73 = .ok (.iconst 5, 1) := by decide +kernel
theorem dX4_read_74 : decode cX4_read 74 = .ok (.irem, 1) := by decide +kernel
theorem dX4_read_75 : decode cX4_read 75 = .ok (.iastore, 1) := by decide +kernel
theorem dX4_read_76 : decode cX4_read 76 = .ok (.aload_n 0, 1) := by decide +kernel
theorem dX4_read_77 : decode cX4_read 77 = .ok (.iload 4, 2) := by decide +kernel
theorem dX4_read_79 : decode cX4_read 79 = .ok (.aload_n 0, 1) := by decide +kernel
theorem dX4_read_80 : decode cX4_read 80 = .ok (.iload_n 1, 1) := by decide +kernel
theorem dX4_read_81 : decode cX4_read 81 = .ok (.iload_n 2, 1) := by decide +kernel
theorem dX4_read_82 : decode cX4_read 82 = .ok (.invokevirtual 334, 3) := by decide +kernel
theorem dX4_read_85 : decode cX4_read 85 = .ok (.ifCond .eq 7, 3) := by decide +kernel
theorem dX4_read_88 : decode cX4_read 88 = .ok (.iconst 1, 1) := by decide +kernel
theorem dX4_read_89 : decode cX4_read 89 = .ok (.goto 4, 3) := by decide +kernel
theorem dX4_read_92 : decode cX4_read 92 = .ok (.iconst 0, 1) := by decide +kernel
theorem dX4_read_93 : decode cX4_read 93 = .ok (.iadd, 1) := by decide +kernel
theorem dX4_read_94 : decode cX4_read 94 = .ok (.invokevirtual 174, 3) := by decide +kernel
theorem dX4_read_97 : decode cX4_read 97 = .ok (.istore 4, 2) := by decide +kernel
theorem dX4_read_99 : decode cX4_read 99 = .ok (.iinc 5 1, 3) := by decide +kernel
theorem dX4_read_102 : decode cX4_read 102 = .ok (.goto (-61), 3) := by decide +kernel
theorem dX4_read_105 : decode cX4_read 105 = .ok (.iload 4, 2) := by decide +kernel
theorem dX4_read_107 : decode cX4_read 107 = .ok (.ireturn, 1) := by decide +kernel
theorem dX4_image_0 : decode cX4_image 0 = .ok (.iconst 0, 1) := by decide +kernel
theorem dX4_image_1 : decode cX4_image 1 = .ok (.istore_n 1, 1) := by decide +kernel
theorem dX4_image_2 : decode cX4_image 2 = .ok (.iload_n 1, 1) := by decide +kernel
theorem dX4_image_3 : decode cX4_image 3 = .ok (.bipush 75, 2) := by decide +kernel
theorem dX4_image_5 : decode cX4_image 5 = .ok (.if_icmp .ge 21, 3) := by decide +kernel
theorem dX4_image_8 : decode cX4_image 8 = .ok (.aload_n 0, 1) := by decide +kernel
theorem dX4_image_9 : decode cX4_image 9 = .ok (.getfield 13, 3) := by decide +kernel
theorem dX4_image_12 : decode cX4_image 12 = .ok (.iload_n 1, 1) := by decide +kernel
theorem dX4_image_13 : decode cX4_image 13 = .ok (.aload_n 0, 1) := by decide +kernel
theorem dX4_image_14 : decode cX4_image 14 = .ok (.getfield 7, 3) := by decide +kernel
theorem dX4_image_17 : decode cX4_image 17 = .ok (.iload_n 1, 1) := by decide +kernel
theorem dX4_image_18 : decode cX4_image 18 = .ok (.iaload, 1) := by decide +kernel
theorem dX4_image_19 : decode cX4_image 19 = .ok (.iastore, 1) := by decide +kernel
theorem dX4_image_20 : decode cX4_image 20 = .ok (.iinc 1 1, 3) := by decide +kernel
theorem dX4_image_23 : decode cX4_image 23 = .ok (.goto (-21), 3) := by decide +kernel
theorem dX4_image_26 : decode cX4_image 26 = .ok (.aload_n 0, 1) := by decide +kernel
theorem dX4_image_27 : decode cX4_image 27 = .ok (.iconst 1, 1) := by decide +kernel
theorem dX4_image_28 : decode cX4_image 28 = .ok (.putfield 337, 3) := by decide +kernel
theorem dX4_image_31 : decode cX4_image 31 = .ok (.iconst 1, 1) := by decide +kernel
theorem dX4_image_32 : decode cX4_image 32 = .ok (.ireturn, 1) := by decide +kernel
theorem dX4_undo_0 : decode cX4_undo 0 = .ok (.aload_n 0, 1) := by decide +kernel
theorem dX4_undo_1 : decode cX4_undo 1 = .ok (.getfield 337, 3) := by decide +kernel
theorem dX4_undo_4 : decode cX4_undo 4 = .ok (.ifCond .ne 10, 3) := by decide +kernel
theorem dX4_undo_7 : decode cX4_undo 7 = .ok (.aload_n 0, 1) := by decide +kernel
theorem dX4_undo_8 : decode cX4_undo 8 = .ok (.ldc 186, 2) := by decide +kernel
theorem dX4_undo_10 : decode cX4_undo 10 = .ok (.invokevirtual 63, 3) := by decide +kernel
theorem dX4_undo_13 : decode cX4_undo 13 = .ok (.ireturn, 1) := by decide +kernel
theorem dX4_undo_14 : decode cX4_undo 14 = .ok (.iconst 0, 1) := by decide +kernel
theorem dX4_undo_15 : decode cX4_undo 15 = .ok (.istore_n 1, 1) := by decide +kernel
theorem dX4_undo_16 : decode cX4_undo 16 = .ok (.iload_n 1, 1) := by decide +kernel
theorem dX4_undo_17 : decode cX4_undo 17 = .ok (.bipush 75, 2) := by decide +kernel
theorem dX4_undo_19 : decode cX4_undo 19 = .ok (.if_icmp .ge 21, 3) := by decide +kernel
theorem dX4_undo_22 : decode cX4_undo 22 = .ok (.aload_n 0, 1) := by decide +kernel
theorem dX4_undo_23 : decode cX4_undo 23 = .ok (.getfield 7, 3) := by decide +kernel
theorem dX4_undo_26 : decode cX4_undo 26 = .ok (.iload_n 1, 1) := by decide +kernel
theorem dX4_undo_27 : decode cX4_undo 27 = .ok (.aload_n 0, 1) := by decide +kernel
theorem dX4_undo_28 : decode cX4_undo 28 = .ok (.getfield 13, 3) := by decide +kernel
theorem dX4_undo_31 : decode cX4_undo 31 = .ok (.iload_n 1, 1) := by decide +kernel
theorem dX4_undo_32 : decode cX4_undo 32 = .ok (.iaload, 1) := by decide +kernel
theorem dX4_undo_33 : decode cX4_undo 33 = .ok (.iastore, 1) := by decide +kernel
theorem dX4_undo_34 : decode cX4_undo 34 = .ok (.iinc 1 1, 3) := by decide +kernel
theorem dX4_undo_37 : decode cX4_undo 37 = .ok (.goto (-21), 3) := by decide +kernel
theorem dX4_undo_40 : decode cX4_undo 40 = .ok (.aload_n 0, 1) := by decide +kernel
theorem dX4_undo_41 : decode cX4_undo 41 = .ok (.getfield 7, 3) := by decide +kernel
theorem dX4_undo_44 : decode cX4_undo 44 = .ok (.iconst 1, 1) := by decide +kernel
theorem dX4_undo_45 : decode cX4_undo 45 = .ok (.iaload, 1) := by decide +kernel
theorem dX4_undo_46 : decode cX4_undo 46 = .ok (.ireturn, 1) := by decide +kernel
theorem dX4_tear_0 : decode cX4_tear 0 = .ok (.aload_n 0, 1) := by decide +kernel
theorem dX4_tear_1 : decode cX4_tear 1 = .ok (.getfield 337, 3) := by decide +kernel
theorem dX4_tear_4 : decode cX4_tear 4 = .ok (.ifCond .eq 7, 3) := by decide +kernel
theorem dX4_tear_7 : decode cX4_tear 7 = .ok (.iconst 1, 1) := by decide +kernel
theorem dX4_tear_8 : decode cX4_tear 8 = .ok (.goto 4, 3) := by decide +kernel
theorem dX4_tear_11 : decode cX4_tear 11 = .ok (.iconst 0, 1) := by decide +kernel
theorem dX4_tear_12 : decode cX4_tear 12 = .ok (.istore_n 1, 1) := by decide +kernel
theorem dX4_tear_13 : decode cX4_tear 13 = .ok (.aload_n 0, 1) := by decide +kernel
theorem dX4_tear_14 : decode cX4_tear 14 = .ok (.iconst 0, 1) := by decide +kernel
theorem dX4_tear_15 : decode cX4_tear 15 = .ok (.putfield 337, 3) := by decide +kernel
theorem dX4_tear_18 : decode cX4_tear 18 = .ok (.iload_n 1, 1) := by decide +kernel
theorem dX4_tear_19 : decode cX4_tear 19 = .ok (.ireturn, 1) := by decide +kernel
theorem dX4_count_0 : decode cX4_count 0 = .ok (.iload_n 1, 1) := by decide +kernel
theorem dX4_count_1 : decode cX4_count 1 = .ok (.tableswitch 55 0 3 #[31, 38, 43, 49], 31) := by decide +kernel
theorem dX4_count_32 : decode cX4_count 32 = .ok (.aload_n 0, 1) := by decide +kernel
theorem dX4_count_33 : decode cX4_count 33 = .ok (.getfield 7, 3) := by decide +kernel
theorem dX4_count_36 : decode cX4_count 36 = .ok (.iconst 1, 1) := by decide +kernel
theorem dX4_count_37 : decode cX4_count 37 = .ok (.iaload, 1) := by decide +kernel
theorem dX4_count_38 : decode cX4_count 38 = .ok (.ireturn, 1) := by decide +kernel
theorem dX4_count_39 : decode cX4_count 39 = .ok (.aload_n 0, 1) := by decide +kernel
theorem dX4_count_40 : decode cX4_count 40 = .ok (.getfield 207, 3) := by decide +kernel
theorem dX4_count_43 : decode cX4_count 43 = .ok (.ireturn, 1) := by decide +kernel
theorem dX4_count_44 : decode cX4_count 44 = .ok (.aload_n 0, 1) := by decide +kernel
theorem dX4_count_45 : decode cX4_count 45 = .ok (.iconst 4, 1) := by decide +kernel
theorem dX4_count_46 : decode cX4_count 46 = .ok (.invokevirtual 113, 3) := by decide +kernel
theorem dX4_count_49 : decode cX4_count 49 = .ok (.ireturn, 1) := by decide +kernel
theorem dX4_count_50 : decode cX4_count 50 = .ok (.aload_n 0, 1) := by decide +kernel
theorem dX4_count_51 : decode cX4_count 51 = .ok (.iconst 3, 1) := by decide +kernel
theorem dX4_count_52 : decode cX4_count 52 = .ok (.invokevirtual 113, 3) := by decide +kernel
theorem dX4_count_55 : decode cX4_count 55 = .ok (.ireturn, 1) := by decide +kernel
theorem dX4_count_56 : decode cX4_count 56 = .ok (.aload_n 0, 1) := by decide +kernel
theorem dX4_count_57 : decode cX4_count 57 = .ok (.ldc 44, 2) := by decide +kernel
theorem dX4_count_59 : decode cX4_count 59 = .ok (.invokevirtual 63, 3) := by decide +kernel
theorem dX4_count_62 : decode cX4_count 62 = .ok (.ireturn, 1) := by decide +kernel
theorem dX4_status_0 : decode cX4_status 0 = .ok (.iload_n 1, 1) := by decide +kernel
theorem dX4_status_1 : decode cX4_status 1 = .ok (.i2l, 1) := by decide +kernel
theorem dX4_status_2 : decode cX4_status 2 = .ok (.ldc2_w 340, 3) := by decide +kernel
theorem dX4_status_5 : decode cX4_status 5 = .ok (.ldc2_w 342, 3) := by decide +kernel
theorem dX4_status_8 : decode cX4_status 8 = .ok (.invokestatic 49, 3) := by decide +kernel
theorem dX4_status_11 : decode cX4_status 11 = .ok (.ifCond .ne 10, 3) := by decide +kernel
theorem dX4_status_14 : decode cX4_status 14 = .ok (.aload_n 0, 1) := by decide +kernel
theorem dX4_status_15 : decode cX4_status 15 = .ok (.ldc 44, 2) := by decide +kernel
theorem dX4_status_17 : decode cX4_status 17 = .ok (.invokevirtual 63, 3) := by decide +kernel
theorem dX4_status_20 : decode cX4_status 20 = .ok (.ireturn, 1) := by decide +kernel
theorem dX4_status_21 : decode cX4_status 21 = .ok (.iconst 0, 1) := by decide +kernel
theorem dX4_status_22 : decode cX4_status 22 = .ok (.istore_n 2, 1) := by decide +kernel
theorem dX4_status_23 : decode cX4_status 23 = .ok (.iconst 0, 1) := by decide +kernel
theorem dX4_status_24 : decode cX4_status 24 = .ok (.istore_n 3, 1) := by decide +kernel
theorem dX4_status_25 : decode cX4_status 25 = .ok (.iload_n 3, 1) := by decide +kernel
theorem dX4_status_26 : decode cX4_status 26 = .ok (.bipush 7, 2) := by decide +kernel
theorem dX4_status_28 : decode cX4_status 28 = .ok (.if_icmp .ge 31, 3) := by decide +kernel
theorem dX4_status_31 : decode cX4_status 31 = .ok (.iload_n 2, 1) := by decide +kernel
theorem dX4_status_32 : decode cX4_status 32 = .ok (.iload_n 1, 1) := by decide +kernel
theorem dX4_status_33 : decode cX4_status 33 = .ok (.ifCond .lt 8, 3) := by decide +kernel
theorem dX4_status_36 : decode cX4_status 36 = .ok (.iload_n 3, 1) := by decide +kernel
theorem dX4_status_37 : decode cX4_status 37 = .ok (.iload_n 1, 1) := by decide +kernel
theorem dX4_status_38 : decode cX4_status 38 = .ok (.if_icmp .ne 12, 3) := by decide +kernel
theorem dX4_status_41 : decode cX4_status 41 = .ok (.aload_n 0, 1) := by decide +kernel
theorem dX4_status_42 : decode cX4_status 42 = .ok (.getfield 22, 3) := by decide +kernel
theorem dX4_status_45 : decode cX4_status 45 = .ok (.iload_n 3, 1) := by decide +kernel
theorem dX4_status_46 : decode cX4_status 46 = .ok (.iaload, 1) := by decide +kernel
theorem dX4_status_47 : decode cX4_status 47 = .ok (.goto 4, 3) := by decide +kernel
theorem dX4_status_50 : decode cX4_status 50 = .ok (.iconst 0, 1) := by decide +kernel
theorem dX4_status_51 : decode cX4_status 51 = .ok (.iadd, 1) := by decide +kernel
theorem dX4_status_52 : decode cX4_status 52 = .ok (.istore_n 2, 1) := by decide +kernel
theorem dX4_status_53 : decode cX4_status 53 = .ok (.iinc 3 1, 3) := by decide +kernel
theorem dX4_status_56 : decode cX4_status 56 = .ok (.goto (-31), 3) := by decide +kernel
theorem dX4_status_59 : decode cX4_status 59 = .ok (.iload_n 2, 1) := by decide +kernel
theorem dX4_status_60 : decode cX4_status 60 = .ok (.ireturn, 1) := by decide +kernel
