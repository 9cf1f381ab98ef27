theorem dX3_init_0 : decode cX3_init 0 = .ok (.aload_n 0, 1) := by decide +kernel
theorem dX3_init_1 : decode cX3_init 1 = .ok (.invokespecial 1, 3) := by decide +kernel
theorem dX3_init_4 : decode cX3_init 4 = .ok (.aload_n 0, 1) := by decide +kernel
theorem dX3_init_5 : decode cX3_init 5 = .ok (.new 7, 3) := by decide +kernel
theorem dX3_init_8 : decode cX3_init 8 = .ok (.dup, 1) := by decide +kernel
theorem dX3_init_9 : decode cX3_init 9 = .ok (.invokespecial 9, 3) := by decide +kernel
theorem dX3_init_12 : decode cX3_init 12 = .ok (.putfield 10, 3) := by decide +kernel
theorem dX3_init_15 : decode cX3_init 15 = .ok (.aload_n 0, 1) := by decide +kernel
theorem dX3_init_16 : decode cX3_init 16 = .ok (.new 7, 3) := by decide +kernel
theorem dX3_init_19 : decode cX3_init 19 = .ok (.dup, 1) := by decide +kernel
theorem dX3_init_20 : decode cX3_init 20 = .ok (.invokespecial 9, 3) := by decide +kernel
theorem dX3_init_23 : decode cX3_init 23 = .ok (.putfield 16, 3) := by decide +kernel
theorem dX3_init_26 : decode cX3_init 26 = .ok (.aload_n 0, 1) := by decide +kernel
theorem dX3_init_27 : decode cX3_init 27 = .ok (.new 7, 3) := by decide +kernel
theorem dX3_init_30 : decode cX3_init 30 = .ok (.dup, 1) := by decide +kernel
theorem dX3_init_31 : decode cX3_init 31 = .ok (.invokespecial 9, 3) := by decide +kernel
theorem dX3_init_34 : decode cX3_init 34 = .ok (.putfield 19, 3) := by decide +kernel
theorem dX3_init_37 : decode cX3_init 37 = .ok (.aload_n 0, 1) := by decide +kernel
theorem dX3_init_38 : decode cX3_init 38 = .ok (.iconst 0, 1) := by decide +kernel
theorem dX3_init_39 : decode cX3_init 39 = .ok (.putfield 22, 3) := by decide +kernel
theorem dX3_init_42 : decode cX3_init 42 = .ok (.aload_n 0, 1) := by decide +kernel
theorem dX3_init_43 : decode cX3_init 43 = .ok (.new 26, 3) := by decide +kernel
theorem dX3_init_46 : decode cX3_init 46 = .ok (.dup, 1) := by decide +kernel
theorem dX3_init_47 : decode cX3_init 47 = .ok (.invokespecial 28, 3) := by decide +kernel
theorem dX3_init_50 : decode cX3_init 50 = .ok (.putfield 29, 3) := by decide +kernel
theorem dX3_init_53 : decode cX3_init 53 = .ok (.aload_n 0, 1) := by decide +kernel
theorem dX3_init_54 : decode cX3_init 54 = .ok (.iconst 4, 1) := by decide +kernel
theorem dX3_init_55 : decode cX3_init 55 = .ok (.anewarray 33, 3) := by decide +kernel
theorem dX3_init_58 : decode cX3_init 58 = .ok (.putfield 35, 3) := by decide +kernel
theorem dX3_init_61 : decode cX3_init 61 = .ok (.iconst 0, 1) := by decide +kernel
theorem dX3_init_62 : decode cX3_init 62 = .ok (.istore_n 1, 1) := by decide +kernel
theorem dX3_init_63 : decode cX3_init 63 = .ok (.iload_n 1, 1) := by decide +kernel
theorem dX3_init_64 : decode cX3_init 64 = .ok (.iconst 4, 1) := by decide +kernel
theorem dX3_init_65 : decode cX3_init 65 = .ok (.if_icmp .ge 22, 3) := by decide +kernel
theorem dX3_init_68 : decode cX3_init 68 = .ok (.aload_n 0, 1) := by decide +kernel
theorem dX3_init_69 : decode cX3_init 69 = .ok (.getfield 35, 3) := by decide +kernel
theorem dX3_init_72 : decode cX3_init 72 = .ok (.iload_n 1, 1) := by decide +kernel
theorem dX3_init_73 : decode cX3_init 73 = .ok (.new 33, 3) := by decide +kernel
theorem dX3_init_76 : decode cX3_init 76 = .ok (.dup, 1) := by decide +kernel
theorem dX3_init_77 : decode cX3_init 77 = .ok (.invokespecial 39, 3) := by decide +kernel
theorem dX3_init_80 : decode cX3_init 80 = .ok (.aastore, 1) := by decide +kernel
theorem dX3_init_81 : decode cX3_init 81 = .ok (.iinc 1 1, 3) := by decide +kernel
theorem dX3_init_84 : decode cX3_init 84 = .ok (.goto (-21), 3) := by decide +kernel
theorem dX3_init_87 : decode cX3_init 87 = .ok (.aload_n 0, 1) := by decide +kernel
theorem dX3_init_88 : decode cX3_init 88 = .ok (.bipush 7, 2) := by decide +kernel
theorem dX3_init_90 : decode cX3_init 90 = .ok (.newarray .int, 2) := by decide +kernel
theorem dX3_init_92 : decode cX3_init 92 = .ok (.putfield 40, 3) := by decide +kernel
theorem dX3_init_95 : decode cX3_init 95 = .ok (.aload_n 0, 1) := by decide +kernel
theorem dX3_init_96 : decode cX3_init 96 = .ok (.bipush 8, 2) := by decide +kernel
theorem dX3_init_98 : decode cX3_init 98 = .ok (.newarray .int, 2) := by decide +kernel
theorem dX3_init_100 : decode cX3_init 100 = .ok (.putfield 44, 3) := by decide +kernel
theorem dX3_init_103 : decode cX3_init 103 = .ok (.return_, 1) := by decide +kernel
theorem dX3_tacky_0 : decode cX3_tacky 0 = .ok (.iload_n 1, 1) := by decide +kernel
theorem dX3_tacky_1 : decode cX3_tacky 1 = .ok (.iconst 0, 1) := by decide +kernel
theorem dX3_tacky_2 : decode cX3_tacky 2 = .ok (.bipush 8, 2) := by decide +kernel
theorem dX3_tacky_4 : decode cX3_tacky 4 = .ok (.invokestatic 47, 3) := by decide +kernel
theorem dX3_tacky_7 : decode cX3_tacky 7 = .ok (.ifCond .eq 10, 3) := by decide +kernel
theorem dX3_tacky_10 : decode cX3_tacky 10 = .ok (.aload_n 0, 1) := by decide +kernel
theorem dX3_tacky_11 : decode cX3_tacky 11 = .ok (.ldc 51, 2) := by decide +kernel
theorem dX3_tacky_13 : decode cX3_tacky 13 = .ok (.invokevirtual 52, 3) := by decide +kernel
theorem dX3_tacky_16 : decode cX3_tacky 16 = .ok (.ireturn, 1) := by decide +kernel
theorem dX3_tacky_17 : decode cX3_tacky 17 = .ok (.aload_n 0, 1) := by decide +kernel
theorem dX3_tacky_18 : decode cX3_tacky 18 = .ok (.getfield 10, 3) := by decide +kernel
theorem dX3_tacky_21 : decode cX3_tacky 21 = .ok (.getfield 56, 3) := by decide +kernel
theorem dX3_tacky_24 : decode cX3_tacky 24 = .ok (.istore_n 2, 1) := by decide +kernel
theorem dX3_tacky_25 : decode cX3_tacky 25 = .ok (.aload_n 0, 1) := by decide +kernel
theorem dX3_tacky_26 : decode cX3_tacky 26 = .ok (.getfield 10, 3) := by decide +kernel
theorem dX3_tacky_29 : decode cX3_tacky 29 = .ok (.iload_n 1, 1) := by decide +kernel
theorem dX3_tacky_30 : decode cX3_tacky 30 = .ok (.putfield 56, 3) := by decide +kernel
theorem dX3_tacky_33 : decode cX3_tacky 33 = .ok (.iload_n 2, 1) := by decide +kernel
theorem dX3_tacky_34 : decode cX3_tacky 34 = .ok (.ireturn, 1) := by decide +kernel
theorem dX3_now_0 : decode cX3_now 0 = .ok (.iload_n 1, 1) := by decide +kernel
theorem dX3_now_1 : decode cX3_now 1 = .ok (.tableswitch 124 0 7 #[47, 55, 63, 79, 87, 95, 103, 114], 47) := by decide +kernel
theorem dX3_now_48 : decode cX3_now 48 = .ok (.aload_n 0, 1) := by decide +kernel
theorem dX3_now_49 : decode cX3_now 49 = .ok (.getfield 10, 3) := by decide +kernel
theorem dX3_now_52 : decode cX3_now 52 = .ok (.getfield 60, 3) := by decide +kernel
theorem dX3_now_55 : decode cX3_now 55 = .ok (.ireturn, 1) := by decide +kernel
theorem dX3_now_56 : decode cX3_now 56 = .ok (.aload_n 0, 1) := by decide +kernel
theorem dX3_now_57 : decode cX3_now 57 = .ok (.getfield 10, 3) := by decide +kernel
theorem dX3_now_60 : decode cX3_now 60 = .ok (.invokevirtual 63, 3) := by decide +kernel
theorem dX3_now_63 : decode cX3_now 63 = .ok (.ireturn, 1) := by decide +kernel
theorem dX3_now_64 : decode cX3_now 64 = .ok (.aload_n 0, 1) := by decide +kernel
theorem dX3_now_65 : decode cX3_now 65 = .ok (.getfield 10, 3) := by decide +kernel
theorem dX3_now_68 : decode cX3_now 68 = .ok (.invokevirtual 67, 3) := by decide +kernel
theorem dX3_now_71 : decode cX3_now 71 = .ok (.ifCond .eq 7, 3) := by decide +kernel
theorem dX3_now_74 : decode cX3_now 74 = .ok (.iconst 1, 1) := by decide +kernel
theorem dX3_now_75 : decode cX3_now 75 = .ok (.goto 4, 3) := by decide +kernel
theorem dX3_now_78 : decode cX3_now 78 = .ok (.iconst 0, 1) := by decide +kernel
theorem dX3_now_79 : decode cX3_now 79 = .ok (.ireturn, 1) := by decide +kernel
theorem dX3_now_80 : decode cX3_now 80 = .ok (.aload_n 0, 1) := by decide +kernel
theorem dX3_now_81 : decode cX3_now 81 = .ok (.getfield 10, 3) := by decide +kernel
theorem dX3_now_84 : decode cX3_now 84 = .ok (.invokevirtual 71, 3) := by decide +kernel
theorem dX3_now_87 : decode cX3_now 87 = .ok (.ireturn, 1) := by decide +kernel
theorem dX3_now_88 : decode cX3_now 88 = .ok (.aload_n 0, 1) := by decide +kernel
theorem dX3_now_89 : decode cX3_now 89 = .ok (.getfield 10, 3) := by decide +kernel
theorem dX3_now_92 : decode cX3_now 92 = .ok (.invokevirtual 74, 3) := by decide +kernel
theorem dX3_now_95 : decode cX3_now 95 = .ok (.ireturn, 1) := by decide +kernel
theorem dX3_now_96 : decode cX3_now 96 = .ok (.aload_n 0, 1) := by decide +kernel
theorem dX3_now_97 : decode cX3_now 97 = .ok (.getfield 10, 3) := by decide +kernel
theorem dX3_now_100 : decode cX3_now 100 = .ok (.invokevirtual 77, 3) := by decide +kernel
theorem dX3_now_103 : decode cX3_now 103 = .ok (.ireturn, 1) := by decide +kernel
theorem dX3_now_104 : decode cX3_now 104 = .ok (.aload_n 0, 1) := by decide +kernel
theorem dX3_now_105 : decode cX3_now 105 = .ok (.getfield 10, 3) := by decide +kernel
theorem dX3_now_108 : decode cX3_now 108 = .ok (.bipush 7, 2) := by decide +kernel
theorem dX3_now_110 : decode cX3_now 110 = .ok (.iconst 1, 1) := by decide +kernel
theorem dX3_now_111 : decode cX3_now 111 = .ok (.invokevirtual 80, 3) := by decide +kernel
theorem dX3_now_114 : decode cX3_now 114 = .ok (.ireturn, 1) := by decide +kernel
theorem dX3_now_115 : decode cX3_now 115 = .ok (.aload_n 0, 1) := by decide +kernel
theorem dX3_now_116 : decode cX3_now 116 = .ok (.getfield 10, 3) := by decide +kernel
theorem dX3_now_119 : decode cX3_now 119 = .ok (.bipush 8, 2) := by decide +kernel
theorem dX3_now_121 : decode cX3_now 121 = .ok (.invokevirtual 84, 3) := by decide +kernel
theorem dX3_now_124 : decode cX3_now 124 = .ok (.ireturn, 1) := by decide +kernel
theorem dX3_now_125 : decode cX3_now 125 = .ok (.aload_n 0, 1) := by decide +kernel
theorem dX3_now_126 : decode cX3_now 126 = .ok (.ldc 51, 2) := by decide +kernel
theorem dX3_now_128 : decode cX3_now 128 = .ok (.invokevirtual 52, 3) := by decide +kernel
theorem dX3_now_131 : decode cX3_now 131 = .ok (.ireturn, 1) := by decide +kernel
theorem dX3_hangs_0 : decode cX3_hangs 0 = .ok (.iload_n 1, 1) := by decide +kernel
theorem dX3_hangs_1 : decode cX3_hangs 1 = .ok (.iconst 0, 1) := by decide +kernel
theorem dX3_hangs_2 : decode cX3_hangs 2 = .ok (.iconst 3, 1) := by decide +kernel
theorem dX3_hangs_3 : decode cX3_hangs 3 = .ok (.invokestatic 47, 3) := by decide +kernel
theorem dX3_hangs_6 : decode cX3_hangs 6 = .ok (.ifCond .eq 10, 3) := by decide +kernel
theorem dX3_hangs_9 : decode cX3_hangs 9 = .ok (.aload_n 0, 1) := by decide +kernel
theorem dX3_hangs_10 : decode cX3_hangs 10 = .ok (.ldc 51, 2) := by decide +kernel
theorem dX3_hangs_12 : decode cX3_hangs 12 = .ok (.invokevirtual 52, 3) := by decide +kernel
theorem dX3_hangs_15 : decode cX3_hangs 15 = .ok (.ireturn, 1) := by decide +kernel
theorem dX3_hangs_16 : decode cX3_hangs 16 = .ok (.aload_n 0, 1) := by decide +kernel
theorem dX3_hangs_17 : decode cX3_hangs 17 = .ok (.getfield 10, 3) := by decide +kernel
theorem dX3_hangs_20 : decode cX3_hangs 20 = .ok (.iconst 1, 1) := by decide +kernel
theorem dX3_hangs_21 : decode cX3_hangs 21 = .ok (.iload_n 1, 1) := by decide +kernel
theorem dX3_hangs_22 : decode cX3_hangs 22 = .ok (.invokevirtual 80, 3) := by decide +kernel
theorem dX3_hangs_25 : decode cX3_hangs 25 = .ok (.ireturn, 1) := by decide +kernel
theorem dX3_figure_0 : decode cX3_figure 0 = .ok (.iload_n 1, 1) := by decide +kernel
theorem dX3_figure_1 : decode cX3_figure 1 = .ok (.iconst 0, 1) := by decide +kernel
theorem dX3_figure_2 : decode cX3_figure 2 = .ok (.iconst 5, 1) := by decide +kernel
theorem dX3_figure_3 : decode cX3_figure 3 = .ok (.invokestatic 47, 3) := by decide +kernel
theorem dX3_figure_6 : decode cX3_figure 6 = .ok (.ifCond .ne 22, 3) := by decide +kernel
theorem dX3_figure_9 : decode cX3_figure 9 = .ok (.iload_n 2, 1) := by decide +kernel
theorem dX3_figure_10 : decode cX3_figure 10 = .ok (.iconst 0, 1) := by decide +kernel
theorem dX3_figure_11 : decode cX3_figure 11 = .ok (.iconst 3, 1) := by decide +kernel
theorem dX3_figure_12 : decode cX3_figure 12 = .ok (.invokestatic 47, 3) := by decide +kernel
theorem dX3_figure_15 : decode cX3_figure 15 = .ok (.ifCond .ne 13, 3) := by decide +kernel
theorem dX3_figure_18 : decode cX3_figure 18 = .ok (.iload_n 3, 1) := by decide +kernel
theorem dX3_figure_19 : decode cX3_figure 19 = .ok (.iconst 0, 1) := by decide +kernel
theorem dX3_figure_20 : decode cX3_figure 20 = .ok (.bipush 19, 2) := by decide +kernel
theorem dX3_figure_22 : decode cX3_figure 22 = .ok (.invokestatic 47, 3) := by decide +kernel
theorem dX3_figure_25 : decode cX3_figure 25 = .ok (.ifCond .eq 10, 3) := by decide +kernel
theorem dX3_figure_28 : decode cX3_figure 28 = .ok (.aload_n 0, 1) := by decide +kernel
theorem dX3_figure_29 : decode cX3_figure 29 = .ok (.ldc 51, 2) := by decide +kernel
theorem dX3_figure_31 : decode cX3_figure 31 = .ok (.invokevirtual 52, 3) := by decide +kernel
theorem dX3_figure_34 : decode cX3_figure 34 = .ok (.ireturn, 1) := by decide +kernel
theorem dX3_figure_35 : decode cX3_figure 35 = .ok (.aload_n 0, 1) := by decide +kernel
theorem dX3_figure_36 : decode cX3_figure 36 = .ok (.getfield 10, 3) := by decide +kernel
theorem dX3_figure_39 : decode cX3_figure 39 = .ok (.invokevirtual 87, 3) := by decide +kernel
theorem dX3_figure_42 : decode cX3_figure 42 = .ok (.ifCond .eq 10, 3) := by decide +kernel
theorem dX3_figure_45 : decode cX3_figure 45 = .ok (.aload_n 0, 1) := by decide +kernel
theorem dX3_figure_46 : decode cX3_figure 46 = .ok (.ldc 90, 2) := by decide +kernel
theorem dX3_figure_48 : decode cX3_figure 48 = .ok (.invokevirtual 52, 3) := by decide +kernel
theorem dX3_figure_51 : decode cX3_figure 51 = .ok (.ireturn, 1) := by decide +kernel
theorem dX3_figure_52 : decode cX3_figure 52 = .ok (.aload_n 0, 1) := by decide +kernel
theorem dX3_figure_53 : decode cX3_figure 53 = .ok (.getfield 10, 3) := by decide +kernel
theorem dX3_figure_56 : decode cX3_figure 56 = .ok (.iload_n 1, 1) := by decide +kernel
theorem dX3_figure_57 : decode cX3_figure 57 = .ok (.iload_n 2, 1) := by decide +kernel
theorem dX3_figure_58 : decode cX3_figure 58 = .ok (.iload_n 3, 1) := by decide +kernel
theorem dX3_figure_59 : decode cX3_figure 59 = .ok (.invokevirtual 91, 3) := by decide +kernel
theorem dX3_figure_62 : decode cX3_figure 62 = .ok (.ireturn, 1) := by decide +kernel
theorem dX3_of_0 : decode cX3_of 0 = .ok (.aload_n 0, 1) := by decide +kernel
theorem dX3_of_1 : decode cX3_of 1 = .ok (.getfield 10, 3) := by decide +kernel
theorem dX3_of_4 : decode cX3_of 4 = .ok (.iload_n 1, 1) := by decide +kernel
theorem dX3_of_5 : decode cX3_of 5 = .ok (.invokevirtual 95, 3) := by decide +kernel
theorem dX3_of_8 : decode cX3_of 8 = .ok (.ifCond .eq 10, 3) := by decide +kernel
theorem dX3_of_11 : decode cX3_of 11 = .ok (.aload_n 0, 1) := by decide +kernel
theorem dX3_of_12 : decode cX3_of 12 = .ok (.ldc 51, 2) := by decide +kernel
theorem dX3_of_14 : decode cX3_of 14 = .ok (.invokevirtual 52, 3) := by decide +kernel
theorem dX3_of_17 : decode cX3_of 17 = .ok (.ireturn, 1) := by decide +kernel
theorem dX3_of_18 : decode cX3_of 18 = .ok (.iload_n 2, 1) := by decide +kernel
theorem dX3_of_19 : decode cX3_of 19 = .ok (.tableswitch 68 9 11 #[25, 34, 51], 25) := by decide +kernel
theorem dX3_of_44 : decode cX3_of 44 = .ok (.aload_n 0, 1) := by decide +kernel
theorem dX3_of_45 : decode cX3_of 45 = .ok (.getfield 10, 3) := by decide +kernel
theorem dX3_of_48 : decode cX3_of 48 = .ok (.iload_n 1, 1) := by decide +kernel
theorem dX3_of_49 : decode cX3_of 49 = .ok (.invokevirtual 99, 3) := by decide +kernel
theorem dX3_of_52 : decode cX3_of 52 = .ok (.ireturn, 1) := by decide +kernel
theorem dX3_of_53 : decode cX3_of 53 = .ok (.aload_n 0, 1) := by decide +kernel
theorem dX3_of_54 : decode cX3_of 54 = .ok (.getfield 10, 3) := by decide +kernel
theorem dX3_of_57 : decode cX3_of 57 = .ok (.iload_n 1, 1) := by decide +kernel
theorem dX3_of_58 : decode cX3_of 58 = .ok (.invokevirtual 102, 3) := by decide +kernel
theorem dX3_of_61 : decode cX3_of 61 = .ok (.ifCond .eq 7, 3) := by decide +kernel
theorem dX3_of_64 : decode cX3_of 64 = .ok (.iconst 1, 1) := by decide +kernel
theorem dX3_of_65 : decode cX3_of 65 = .ok (.goto 4, 3) := by decide +kernel
theorem dX3_of_68 : decode cX3_of 68 = .ok (.iconst 0, 1) := by decide +kernel
theorem dX3_of_69 : decode cX3_of 69 = .ok (.ireturn, 1) := by decide +kernel
theorem dX3_of_70 : decode cX3_of 70 = .ok (.aload_n 0, 1) := by decide +kernel
theorem dX3_of_71 : decode cX3_of 71 = .ok (.getfield 10, 3) := by decide +kernel
theorem dX3_of_74 : decode cX3_of 74 = .ok (.iload_n 1, 1) := by decide +kernel
theorem dX3_of_75 : decode cX3_of 75 = .ok (.invokevirtual 105, 3) := by decide +kernel
theorem dX3_of_78 : decode cX3_of 78 = .ok (.ifCond .eq 7, 3) := by decide +kernel
theorem dX3_of_81 : decode cX3_of 81 = .ok (.iconst 1, 1) := by decide +kernel
theorem dX3_of_82 : decode cX3_of 82 = .ok (.goto 4, 3) := by decide +kernel
theorem dX3_of_85 : decode cX3_of 85 = .ok (.iconst 0, 1) := by decide +kernel
theorem dX3_of_86 : decode cX3_of 86 = .ok (.ireturn, 1) := by decide +kernel
theorem dX3_of_87 : decode cX3_of 87 = .ok (.iload_n 2, 1) := by decide +kernel
theorem dX3_of_88 : decode cX3_of 88 = .ok (.iconst 0, 1) := by decide +kernel
theorem dX3_of_89 : decode cX3_of 89 = .ok (.bipush 8, 2) := by decide +kernel
theorem dX3_of_91 : decode cX3_of 91 = .ok (.invokestatic 47, 3) := by decide +kernel
theorem dX3_of_94 : decode cX3_of 94 = .ok (.ifCond .eq 12, 3) := by decide +kernel
theorem dX3_of_97 : decode cX3_of 97 = .ok (.aload_n 0, 1) := by decide +kernel
theorem dX3_of_98 : decode cX3_of 98 = .ok (.ldc 51, 2) := by decide +kernel
theorem dX3_of_100 : decode cX3_of 100 = .ok (.invokevirtual 52, 3) := by decide +kernel
theorem dX3_of_103 : decode cX3_of 103 = .ok (.goto 12, 3) := by decide +kernel
theorem dX3_of_106 : decode cX3_of 106 = .ok (.aload_n 0, 1) := by decide +kernel
theorem dX3_of_107 : decode cX3_of 107 = .ok (.getfield 10, 3) := by decide +kernel
theorem dX3_of_110 : decode cX3_of 110 = .ok (.iload_n 1, 1) := by decide +kernel
theorem dX3_of_111 : decode cX3_of 111 = .ok (.iload_n 2, 1) := by decide +kernel
theorem dX3_of_112 : decode cX3_of 112 = .ok (.invokevirtual 108, 3) := by decide +kernel
theorem dX3_of_115 : decode cX3_of 115 = .ok (.ireturn, 1) := by decide +kernel
theorem dX3_set_0 : decode cX3_set 0 = .ok (.aload_n 0, 1) := by decide +kernel
theorem dX3_set_1 : decode cX3_set 1 = .ok (.getfield 10, 3) := by decide +kernel
theorem dX3_set_4 : decode cX3_set 4 = .ok (.iload_n 1, 1) := by decide +kernel
theorem dX3_set_5 : decode cX3_set 5 = .ok (.invokevirtual 95, 3) := by decide +kernel
theorem dX3_set_8 : decode cX3_set 8 = .ok (.ifCond .ne 29, 3) := by decide +kernel
theorem dX3_set_11 : decode cX3_set 11 = .ok (.iload_n 2, 1) := by decide +kernel
theorem dX3_set_12 : decode cX3_set 12 = .ok (.iconst 1, 1) := by decide +kernel
theorem dX3_set_13 : decode cX3_set 13 = .ok (.bipush 8, 2) := by decide +kernel
theorem dX3_set_15 : decode cX3_set 15 = .ok (.invokestatic 47, 3) := by decide +kernel
theorem dX3_set_18 : decode cX3_set 18 = .ok (.ifCond .ne 19, 3) := by decide +kernel
theorem dX3_set_21 : decode cX3_set 21 = .ok (.iload_n 3, 1) := by decide +kernel
theorem dX3_set_22 : decode cX3_set 22 = .ok (.iload_n 2, 1) := by decide +kernel
theorem dX3_set_23 : decode cX3_set 23 = .ok (.invokestatic 111, 3) := by decide +kernel
theorem dX3_set_26 : decode cX3_set 26 = .ok (.aload_n 0, 1) := by decide +kernel
theorem dX3_set_27 : decode cX3_set 27 = .ok (.iload_n 2, 1) := by decide +kernel
theorem dX3_set_28 : decode cX3_set 28 = .ok (.invokevirtual 114, 3) := by decide +kernel
theorem dX3_set_31 : decode cX3_set 31 = .ok (.invokestatic 47, 3) := by decide +kernel
theorem dX3_set_34 : decode cX3_set 34 = .ok (.ifCond .eq 10, 3) := by decide +kernel
theorem dX3_set_37 : decode cX3_set 37 = .ok (.aload_n 0, 1) := by decide +kernel
theorem dX3_set_38 : decode cX3_set 38 = .ok (.ldc 51, 2) := by decide +kernel
theorem dX3_set_40 : decode cX3_set 40 = .ok (.invokevirtual 52, 3) := by decide +kernel
theorem dX3_set_43 : decode cX3_set 43 = .ok (.ireturn, 1) := by decide +kernel
theorem dX3_set_44 : decode cX3_set 44 = .ok (.aload_n 0, 1) := by decide +kernel
theorem dX3_set_45 : decode cX3_set 45 = .ok (.getfield 10, 3) := by decide +kernel
theorem dX3_set_48 : decode cX3_set 48 = .ok (.iload_n 1, 1) := by decide +kernel
theorem dX3_set_49 : decode cX3_set 49 = .ok (.iload_n 2, 1) := by decide +kernel
theorem dX3_set_50 : decode cX3_set 50 = .ok (.invokevirtual 108, 3) := by decide +kernel
theorem dX3_set_53 : decode cX3_set 53 = .ok (.istore 4, 2) := by decide +kernel
theorem dX3_set_55 : decode cX3_set 55 = .ok (.aload_n 0, 1) := by decide +kernel
theorem dX3_set_56 : decode cX3_set 56 = .ok (.getfield 10, 3) := by decide +kernel
theorem dX3_set_59 : decode cX3_set 59 = .ok (.iload_n 1, 1) := by decide +kernel
theorem dX3_set_60 : decode cX3_set 60 = .ok (.iload_n 2, 1) := by decide +kernel
theorem dX3_set_61 : decode cX3_set 61 = .ok (.iload_n 3, 1) := by decide +kernel
theorem dX3_set_62 : decode cX3_set 62 = .ok (.invokevirtual 117, 3) := by decide +kernel
theorem dX3_set_65 : decode cX3_set 65 = .ok (.iload 4, 2) := by decide +kernel
theorem dX3_set_67 : decode cX3_set 67 = .ok (.ireturn, 1) := by decide +kernel
theorem dX3_seen_0 : decode cX3_seen 0 = .ok (.aload_n 0, 1) := by decide +kernel
theorem dX3_seen_1 : decode cX3_seen 1 = .ok (.getfield 10, 3) := by decide +kernel
theorem dX3_seen_4 : decode cX3_seen 4 = .ok (.iload_n 1, 1) := by decide +kernel
theorem dX3_seen_5 : decode cX3_seen 5 = .ok (.invokevirtual 95, 3) := by decide +kernel
theorem dX3_seen_8 : decode cX3_seen 8 = .ok (.ifCond .eq 10, 3) := by decide +kernel
theorem dX3_seen_11 : decode cX3_seen 11 = .ok (.aload_n 0, 1) := by decide +kernel
theorem dX3_seen_12 : decode cX3_seen 12 = .ok (.ldc 51, 2) := by decide +kernel
theorem dX3_seen_14 : decode cX3_seen 14 = .ok (.invokevirtual 52, 3) := by decide +kernel
theorem dX3_seen_17 : decode cX3_seen 17 = .ok (.ireturn, 1) := by decide +kernel
theorem dX3_seen_18 : decode cX3_seen 18 = .ok (.aload_n 0, 1) := by decide +kernel
theorem dX3_seen_19 : decode cX3_seen 19 = .ok (.getfield 10, 3) := by decide +kernel
theorem dX3_seen_22 : decode cX3_seen 22 = .ok (.iload_n 1, 1) := by decide +kernel
theorem dX3_seen_23 : decode cX3_seen 23 = .ok (.invokevirtual 121, 3) := by decide +kernel
theorem dX3_seen_26 : decode cX3_seen 26 = .ok (.ireturn, 1) := by decide +kernel
theorem dX3_turn_0 : decode cX3_turn 0 = .ok (.aload_n 0, 1) := by decide +kernel
theorem dX3_turn_1 : decode cX3_turn 1 = .ok (.getfield 10, 3) := by decide +kernel
theorem dX3_turn_4 : decode cX3_turn 4 = .ok (.iload_n 1, 1) := by decide +kernel
theorem dX3_turn_5 : decode cX3_turn 5 = .ok (.invokevirtual 95, 3) := by decide +kernel
theorem dX3_turn_8 : decode cX3_turn 8 = .ok (.ifCond .ne 12, 3) := by decide +kernel
theorem dX3_turn_11 : decode cX3_turn 11 = .ok (.iload_n 2, 1) := by decide +kernel
theorem dX3_turn_12 : decode cX3_turn 12 = .ok (.iconst 0, 1) := by decide +kernel
theorem dX3_turn_13 : decode cX3_turn 13 = .ok (.iconst 5, 1) := by decide +kernel
theorem dX3_turn_14 : decode cX3_turn 14 = .ok (.invokestatic 47, 3) := by decide +kernel
theorem dX3_turn_17 : decode cX3_turn 17 = .ok (.ifCond .eq 10, 3) := by decide +kernel
theorem dX3_turn_20 : decode cX3_turn 20 = .ok (.aload_n 0, 1) := by decide +kernel
theorem dX3_turn_21 : decode cX3_turn 21 = .ok (.ldc 51, 2) := by decide +kernel
theorem dX3_turn_23 : decode cX3_turn 23 = .ok (.invokevirtual 52, 3) := by decide +kernel
theorem dX3_turn_26 : decode cX3_turn 26 = .ok (.ireturn, 1) := by decide +kernel
theorem dX3_turn_27 : decode cX3_turn 27 = .ok (.aload_n 0, 1) := by decide +kernel
theorem dX3_turn_28 : decode cX3_turn 28 = .ok (.getfield 10, 3) := by decide +kernel
theorem dX3_turn_31 : decode cX3_turn 31 = .ok (.iload_n 1, 1) := by decide +kernel
theorem dX3_turn_32 : decode cX3_turn 32 = .ok (.iconst 0, 1) := by decide +kernel
theorem dX3_turn_33 : decode cX3_turn 33 = .ok (.invokevirtual 108, 3) := by decide +kernel
theorem dX3_turn_36 : decode cX3_turn 36 = .ok (.istore_n 3, 1) := by decide +kernel
theorem dX3_turn_37 : decode cX3_turn 37 = .ok (.aload_n 0, 1) := by decide +kernel
theorem dX3_turn_38 : decode cX3_turn 38 = .ok (.getfield 10, 3) := by decide +kernel
theorem dX3_turn_41 : decode cX3_turn 41 = .ok (.iload_n 1, 1) := by decide +kernel
theorem dX3_turn_42 : decode cX3_turn 42 = .ok (.iconst 0, 1) := by decide +kernel
theorem dX3_turn_43 : decode cX3_turn 43 = .ok (.iload_n 2, 1) := by decide +kernel
theorem dX3_turn_44 : decode cX3_turn 44 = .ok (.invokevirtual 117, 3) := by decide +kernel
theorem dX3_turn_47 : decode cX3_turn 47 = .ok (.iload_n 3, 1) := by decide +kernel
theorem dX3_turn_48 : decode cX3_turn 48 = .ok (.ireturn, 1) := by decide +kernel
theorem dX3_as_0 : decode cX3_as 0 = .ok (.aload_n 0, 1) := by decide +kernel
theorem dX3_as_1 : decode cX3_as 1 = .ok (.getfield 10, 3) := by decide +kernel
theorem dX3_as_4 : decode cX3_as 4 = .ok (.iload_n 1, 1) := by decide +kernel
theorem dX3_as_5 : decode cX3_as 5 = .ok (.invokevirtual 95, 3) := by decide +kernel
theorem dX3_as_8 : decode cX3_as 8 = .ok (.ifCond .ne 12, 3) := by decide +kernel
theorem dX3_as_11 : decode cX3_as 11 = .ok (.iload_n 2, 1) := by decide +kernel
theorem dX3_as_12 : decode cX3_as 12 = .ok (.iconst 0, 1) := by decide +kernel
theorem dX3_as_13 : decode cX3_as 13 = .ok (.iconst 5, 1) := by decide +kernel
theorem dX3_as_14 : decode cX3_as 14 = .ok (.invokestatic 47, 3) := by decide +kernel
theorem dX3_as_17 : decode cX3_as 17 = .ok (.ifCond .eq 10, 3) := by decide +kernel
theorem dX3_as_20 : decode cX3_as 20 = .ok (.aload_n 0, 1) := by decide +kernel
theorem dX3_as_21 : decode cX3_as 21 = .ok (.ldc 51, 2) := by decide +kernel
theorem dX3_as_23 : decode cX3_as 23 = .ok (.invokevirtual 52, 3) := by decide +kernel
theorem dX3_as_26 : decode cX3_as 26 = .ok (.ireturn, 1) := by decide +kernel
theorem dX3_as_27 : decode cX3_as 27 = .ok (.aload_n 0, 1) := by decide +kernel
theorem dX3_as_28 : decode cX3_as 28 = .ok (.getfield 10, 3) := by decide +kernel
theorem dX3_as_31 : decode cX3_as 31 = .ok (.iload_n 1, 1) := by decide +kernel
theorem dX3_as_32 : decode cX3_as 32 = .ok (.iconst 0, 1) := by decide +kernel
theorem dX3_as_33 : decode cX3_as 33 = .ok (.invokevirtual 108, 3) := by decide +kernel
theorem dX3_as_36 : decode cX3_as 36 = .ok (.iload_n 2, 1) := by decide +kernel
theorem dX3_as_37 : decode cX3_as 37 = .ok (.invokestatic 124, 3) := by decide +kernel
theorem dX3_as_40 : decode cX3_as 40 = .ok (.ifCond .ne 10, 3) := by decide +kernel
theorem dX3_as_43 : decode cX3_as 43 = .ok (.aload_n 0, 1) := by decide +kernel
theorem dX3_as_44 : decode cX3_as 44 = .ok (.ldc 128, 2) := by decide +kernel
theorem dX3_as_46 : decode cX3_as 46 = .ok (.invokevirtual 52, 3) := by decide +kernel
theorem dX3_as_49 : decode cX3_as 49 = .ok (.ireturn, 1) := by decide +kernel
theorem dX3_as_50 : decode cX3_as 50 = .ok (.aload_n 0, 1) := by decide +kernel
theorem dX3_as_51 : decode cX3_as 51 = .ok (.getfield 10, 3) := by decide +kernel
theorem dX3_as_54 : decode cX3_as 54 = .ok (.iload_n 1, 1) := by decide +kernel
theorem dX3_as_55 : decode cX3_as 55 = .ok (.iconst 3, 1) := by decide +kernel
theorem dX3_as_56 : decode cX3_as 56 = .ok (.invokevirtual 108, 3) := by decide +kernel
theorem dX3_as_59 : decode cX3_as 59 = .ok (.ireturn, 1) := by decide +kernel
theorem dX3_hours_0 : decode cX3_hours 0 = .ok (.iload_n 1, 1) := by decide +kernel
theorem dX3_hours_1 : decode cX3_hours 1 = .ok (.iconst 1, 1) := by decide +kernel
theorem dX3_hours_2 : decode cX3_hours 2 = .ok (.bipush 100, 2) := by decide +kernel
theorem dX3_hours_4 : decode cX3_hours 4 = .ok (.invokestatic 47, 3) := by decide +kernel
theorem dX3_hours_7 : decode cX3_hours 7 = .ok (.ifCond .eq 10, 3) := by decide +kernel
theorem dX3_hours_10 : decode cX3_hours 10 = .ok (.aload_n 0, 1) := by decide +kernel
theorem dX3_hours_11 : decode cX3_hours 11 = .ok (.ldc 51, 2) := by decide +kernel
theorem dX3_hours_13 : decode cX3_hours 13 = .ok (.invokevirtual 52, 3) := by decide +kernel
theorem dX3_hours_16 : decode cX3_hours 16 = .ok (.ireturn, 1) := by decide +kernel
theorem dX3_hours_17 : decode cX3_hours 17 = .ok (.aload_n 0, 1) := by decide +kernel
theorem dX3_hours_18 : decode cX3_hours 18 = .ok (.getfield 10, 3) := by decide +kernel
theorem dX3_hours_21 : decode cX3_hours 21 = .ok (.getfield 60, 3) := by decide +kernel
theorem dX3_hours_24 : decode cX3_hours 24 = .ok (.ldc 129, 2) := by decide +kernel
theorem dX3_hours_26 : decode cX3_hours 26 = .ok (.iload_n 1, 1) := by decide +kernel
theorem dX3_hours_27 : decode cX3_hours 27 = .ok (.isub, 1) := by decide +kernel
theorem dX3_hours_28 : decode cX3_hours 28 = .ok (.if_icmp .le 10, 3) := by decide +kernel
theorem dX3_hours_31 : decode cX3_hours 31 = .ok (.aload_n 0, 1) := by decide +kernel
theorem dX3_hours_32 : decode cX3_hours 32 = .ok (.ldc 130, 2) := by decide +kernel
theorem dX3_hours_34 : decode cX3_hours 34 = .ok (.invokevirtual 52, 3) := by decide +kernel
theorem dX3_hours_37 : decode cX3_hours 37 = .ok (.ireturn, 1) := by decide +kernel
theorem dX3_hours_38 : decode cX3_hours 38 = .ok (.aload_n 0, 1) := by decide +kernel
theorem dX3_hours_39 : decode cX3_hours 39 = .ok (.getfield 10, 3) := by decide +kernel
theorem dX3_hours_42 : decode cX3_hours 42 = .ok (.iload_n 1, 1) := by decide +kernel
theorem dX3_hours_43 : decode cX3_hours 43 = .ok (.invokevirtual 131, 3) := by decide +kernel
theorem dX3_hours_46 : decode cX3_hours 46 = .ok (.aload_n 0, 1) := by decide +kernel
theorem dX3_hours_47 : decode cX3_hours 47 = .ok (.getfield 10, 3) := by decide +kernel
theorem dX3_hours_50 : decode cX3_hours 50 = .ok (.invokevirtual 71, 3) := by decide +kernel
theorem dX3_hours_53 : decode cX3_hours 53 = .ok (.ireturn, 1) := by decide +kernel
theorem dX3_on_0 : decode cX3_on 0 = .ok (.aload_n 0, 1) := by decide +kernel
theorem dX3_on_1 : decode cX3_on 1 = .ok (.getfield 10, 3) := by decide +kernel
theorem dX3_on_4 : decode cX3_on 4 = .ok (.iload_n 1, 1) := by decide +kernel
theorem dX3_on_5 : decode cX3_on 5 = .ok (.invokevirtual 95, 3) := by decide +kernel
theorem dX3_on_8 : decode cX3_on 8 = .ok (.ifCond .ne 23, 3) := by decide +kernel
theorem dX3_on_11 : decode cX3_on 11 = .ok (.iload_n 2, 1) := by decide +kernel
theorem dX3_on_12 : decode cX3_on 12 = .ok (.iconst 0, 1) := by decide +kernel
theorem dX3_on_13 : decode cX3_on 13 = .ok (.sipush 200, 3) := by decide +kernel
theorem dX3_on_16 : decode cX3_on 16 = .ok (.invokestatic 47, 3) := by decide +kernel
theorem dX3_on_19 : decode cX3_on 19 = .ok (.ifCond .ne 12, 3) := by decide +kernel
theorem dX3_on_22 : decode cX3_on 22 = .ok (.iload_n 3, 1) := by decide +kernel
theorem dX3_on_23 : decode cX3_on 23 = .ok (.iconst 0, 1) := by decide +kernel
theorem dX3_on_24 : decode cX3_on 24 = .ok (.iconst 3, 1) := by decide +kernel
theorem dX3_on_25 : decode cX3_on 25 = .ok (.invokestatic 47, 3) := by decide +kernel
theorem dX3_on_28 : decode cX3_on 28 = .ok (.ifCond .eq 10, 3) := by decide +kernel
theorem dX3_on_31 : decode cX3_on 31 = .ok (.aload_n 0, 1) := by decide +kernel
theorem dX3_on_32 : decode cX3_on 32 = .ok (.ldc 51, 2) := by decide +kernel
theorem dX3_on_34 : decode cX3_on 34 = .ok (.invokevirtual 52, 3) := by decide +kernel
theorem dX3_on_37 : decode cX3_on 37 = .ok (.ireturn, 1) := by decide +kernel
theorem dX3_on_38 : decode cX3_on 38 = .ok (.aload_n 0, 1) := by decide +kernel
theorem dX3_on_39 : decode cX3_on 39 = .ok (.getfield 16, 3) := by decide +kernel
theorem dX3_on_42 : decode cX3_on 42 = .ok (.aload_n 0, 1) := by decide +kernel
theorem dX3_on_43 : decode cX3_on 43 = .ok (.getfield 10, 3) := by decide +kernel
theorem dX3_on_46 : decode cX3_on 46 = .ok (.invokevirtual 135, 3) := by decide +kernel
theorem dX3_on_49 : decode cX3_on 49 = .ok (.aload_n 0, 1) := by decide +kernel
theorem dX3_on_50 : decode cX3_on 50 = .ok (.getfield 16, 3) := by decide +kernel
theorem dX3_on_53 : decode cX3_on 53 = .ok (.iload_n 2, 1) := by decide +kernel
theorem dX3_on_54 : decode cX3_on 54 = .ok (.invokevirtual 131, 3) := by decide +kernel
theorem dX3_on_57 : decode cX3_on 57 = .ok (.iload_n 3, 1) := by decide +kernel
theorem dX3_on_58 : decode cX3_on 58 = .ok (.tableswitch 56 0 2 #[26, 36, 46], 26) := by decide +kernel
theorem dX3_on_84 : decode cX3_on 84 = .ok (.aload_n 0, 1) := by decide +kernel
theorem dX3_on_85 : decode cX3_on 85 = .ok (.getfield 16, 3) := by decide +kernel
theorem dX3_on_88 : decode cX3_on 88 = .ok (.iload_n 1, 1) := by decide +kernel
theorem dX3_on_89 : decode cX3_on 89 = .ok (.iconst 2, 1) := by decide +kernel
theorem dX3_on_90 : decode cX3_on 90 = .ok (.invokevirtual 108, 3) := by decide +kernel
theorem dX3_on_93 : decode cX3_on 93 = .ok (.ireturn, 1) := by decide +kernel
theorem dX3_on_94 : decode cX3_on 94 = .ok (.aload_n 0, 1) := by decide +kernel
theorem dX3_on_95 : decode cX3_on 95 = .ok (.getfield 16, 3) := by decide +kernel
theorem dX3_on_98 : decode cX3_on 98 = .ok (.iload_n 1, 1) := by decide +kernel
theorem dX3_on_99 : decode cX3_on 99 = .ok (.iconst 3, 1) := by decide +kernel
theorem dX3_on_100 : decode cX3_on 100 = .ok (.invokevirtual 108, 3) := by decide +kernel
theorem dX3_on_103 : decode cX3_on 103 = .ok (.ireturn, 1) := by decide +kernel
theorem dX3_on_104 : decode cX3_on 104 = .ok (.aload_n 0, 1) := by decide +kernel
theorem dX3_on_105 : decode cX3_on 105 = .ok (.getfield 16, 3) := by decide +kernel
theorem dX3_on_108 : decode cX3_on 108 = .ok (.iload_n 1, 1) := by decide +kernel
theorem dX3_on_109 : decode cX3_on 109 = .ok (.iconst 4, 1) := by decide +kernel
theorem dX3_on_110 : decode cX3_on 110 = .ok (.invokevirtual 108, 3) := by decide +kernel
theorem dX3_on_113 : decode cX3_on 113 = .ok (.ireturn, 1) := by decide +kernel
theorem dX3_on_114 : decode cX3_on 114 = .ok (.aload_n 0, 1) := by decide +kernel
theorem dX3_on_115 : decode cX3_on 115 = .ok (.getfield 16, 3) := by decide +kernel
theorem dX3_on_118 : decode cX3_on 118 = .ok (.iload_n 1, 1) := by decide +kernel
theorem dX3_on_119 : decode cX3_on 119 = .ok (.bipush 8, 2) := by decide +kernel
theorem dX3_on_121 : decode cX3_on 121 = .ok (.invokevirtual 108, 3) := by decide +kernel
theorem dX3_on_124 : decode cX3_on 124 = .ok (.ireturn, 1) := by decide +kernel
theorem dX3_when_0 : decode cX3_when 0 = .ok (.aload_n 0, 1) := by decide +kernel
theorem dX3_when_1 : decode cX3_when 1 = .ok (.getfield 10, 3) := by decide +kernel
theorem dX3_when_4 : decode cX3_when 4 = .ok (.iload_n 1, 1) := by decide +kernel
theorem dX3_when_5 : decode cX3_when 5 = .ok (.invokevirtual 95, 3) := by decide +kernel
theorem dX3_when_8 : decode cX3_when 8 = .ok (.ifCond .eq 10, 3) := by decide +kernel
theorem dX3_when_11 : decode cX3_when 11 = .ok (.aload_n 0, 1) := by decide +kernel
theorem dX3_when_12 : decode cX3_when 12 = .ok (.ldc 51, 2) := by decide +kernel
theorem dX3_when_14 : decode cX3_when 14 = .ok (.invokevirtual 52, 3) := by decide +kernel
theorem dX3_when_17 : decode cX3_when 17 = .ok (.ireturn, 1) := by decide +kernel
theorem dX3_when_18 : decode cX3_when 18 = .ok (.aload_n 0, 1) := by decide +kernel
theorem dX3_when_19 : decode cX3_when 19 = .ok (.iconst 1, 1) := by decide +kernel
theorem dX3_when_20 : decode cX3_when 20 = .ok (.iload_n 1, 1) := by decide +kernel
theorem dX3_when_21 : decode cX3_when 21 = .ok (.ishl, 1) := by decide +kernel
theorem dX3_when_22 : decode cX3_when 22 = .ok (.invokevirtual 139, 3) := by decide +kernel
theorem dX3_when_25 : decode cX3_when 25 = .ok (.ireturn, 1) := by decide +kernel
theorem dX3_all_0 : decode cX3_all 0 = .ok (.aload_n 0, 1) := by decide +kernel
theorem dX3_all_1 : decode cX3_all 1 = .ok (.aload_n 0, 1) := by decide +kernel
theorem dX3_all_2 : decode cX3_all 2 = .ok (.getfield 10, 3) := by decide +kernel
theorem dX3_all_5 : decode cX3_all 5 = .ok (.invokevirtual 142, 3) := by decide +kernel
theorem dX3_all_8 : decode cX3_all 8 = .ok (.invokevirtual 139, 3) := by decide +kernel
theorem dX3_all_11 : decode cX3_all 11 = .ok (.ireturn, 1) := by decide +kernel
theorem dX3_many_0 : decode cX3_many 0 = .ok (.iload_n 1, 1) := by decide +kernel
theorem dX3_many_1 : decode cX3_many 1 = .ok (.iconst 0, 1) := by decide +kernel
theorem dX3_many_2 : decode cX3_many 2 = .ok (.sipush 200, 3) := by decide +kernel
theorem dX3_many_5 : decode cX3_many 5 = .ok (.invokestatic 47, 3) := by decide +kernel
theorem dX3_many_8 : decode cX3_many 8 = .ok (.ifCond .eq 10, 3) := by decide +kernel
theorem dX3_many_11 : decode cX3_many 11 = .ok (.aload_n 0, 1) := by decide +kernel
theorem dX3_many_12 : decode cX3_many 12 = .ok (.ldc 51, 2) := by decide +kernel
theorem dX3_many_14 : decode cX3_many 14 = .ok (.invokevirtual 52, 3) := by decide +kernel
theorem dX3_many_17 : decode cX3_many 17 = .ok (.ireturn, 1) := by decide +kernel
theorem dX3_many_18 : decode cX3_many 18 = .ok (.aload_n 0, 1) := by decide +kernel
theorem dX3_many_19 : decode cX3_many 19 = .ok (.getfield 16, 3) := by decide +kernel
theorem dX3_many_22 : decode cX3_many 22 = .ok (.aload_n 0, 1) := by decide +kernel
theorem dX3_many_23 : decode cX3_many 23 = .ok (.getfield 10, 3) := by decide +kernel
theorem dX3_many_26 : decode cX3_many 26 = .ok (.invokevirtual 135, 3) := by decide +kernel
theorem dX3_many_29 : decode cX3_many 29 = .ok (.aload_n 0, 1) := by decide +kernel
theorem dX3_many_30 : decode cX3_many 30 = .ok (.getfield 16, 3) := by decide +kernel
theorem dX3_many_33 : decode cX3_many 33 = .ok (.iload_n 1, 1) := by decide +kernel
theorem dX3_many_34 : decode cX3_many 34 = .ok (.invokevirtual 131, 3) := by decide +kernel
theorem dX3_many_37 : decode cX3_many 37 = .ok (.aload_n 0, 1) := by decide +kernel
theorem dX3_many_38 : decode cX3_many 38 = .ok (.getfield 16, 3) := by decide +kernel
theorem dX3_many_41 : decode cX3_many 41 = .ok (.invokevirtual 145, 3) := by decide +kernel
theorem dX3_many_44 : decode cX3_many 44 = .ok (.ireturn, 1) := by decide +kernel
theorem dX3_porter_0 : decode cX3_porter 0 = .ok (.iload_n 1, 1) := by decide +kernel
theorem dX3_porter_1 : decode cX3_porter 1 = .ok (.iconst 1, 1) := by decide +kernel
theorem dX3_porter_2 : decode cX3_porter 2 = .ok (.bipush 40, 2) := by decide +kernel
theorem dX3_porter_4 : decode cX3_porter 4 = .ok (.invokestatic 47, 3) := by decide +kernel
theorem dX3_porter_7 : decode cX3_porter 7 = .ok (.ifCond .eq 10, 3) := by decide +kernel
theorem dX3_porter_10 : decode cX3_porter 10 = .ok (.aload_n 0, 1) := by decide +kernel
theorem dX3_porter_11 : decode cX3_porter 11 = .ok (.ldc 51, 2) := by decide +kernel
theorem dX3_porter_13 : decode cX3_porter 13 = .ok (.invokevirtual 52, 3) := by decide +kernel
theorem dX3_porter_16 : decode cX3_porter 16 = .ok (.ireturn, 1) := by decide +kernel
theorem dX3_porter_17 : decode cX3_porter 17 = .ok (.iconst (-1), 1) := by decide +kernel
theorem dX3_porter_18 : decode cX3_porter 18 = .ok (.istore_n 2, 1) := by decide +kernel
theorem dX3_porter_19 : decode cX3_porter 19 = .ok (.iconst (-1), 1) := by decide +kernel
theorem dX3_porter_20 : decode cX3_porter 20 = .ok (.istore_n 3, 1) := by decide +kernel
theorem dX3_porter_21 : decode cX3_porter 21 = .ok (.iconst 0, 1) := by decide +kernel
theorem dX3_porter_22 : decode cX3_porter 22 = .ok (.istore 4, 2) := by decide +kernel
theorem dX3_porter_24 : decode cX3_porter 24 = .ok (.iload 4, 2) := by decide +kernel
theorem dX3_porter_26 : decode cX3_porter 26 = .ok (.aload_n 0, 1) := by decide +kernel
theorem dX3_porter_27 : decode cX3_porter 27 = .ok (.getfield 10, 3) := by decide +kernel
theorem dX3_porter_30 : decode cX3_porter 30 = .ok (.getfield 148, 3) := by decide +kernel
theorem dX3_porter_33 : decode cX3_porter 33 = .ok (.if_icmp .ge 61, 3) := by decide +kernel
theorem dX3_porter_36 : decode cX3_porter 36 = .ok (.aload_n 0, 1) := by decide +kernel
theorem dX3_porter_37 : decode cX3_porter 37 = .ok (.getfield 10, 3) := by decide +kernel
theorem dX3_porter_40 : decode cX3_porter 40 = .ok (.iload 4, 2) := by decide +kernel
theorem dX3_porter_42 : decode cX3_porter 42 = .ok (.bipush 7, 2) := by decide +kernel
theorem dX3_porter_44 : decode cX3_porter 44 = .ok (.invokevirtual 108, 3) := by decide +kernel
theorem dX3_porter_47 : decode cX3_porter 47 = .ok (.ifCond .ne 41, 3) := by decide +kernel
theorem dX3_porter_50 : decode cX3_porter 50 = .ok (.aload_n 0, 1) := by decide +kernel
theorem dX3_porter_51 : decode cX3_porter 51 = .ok (.iload 4, 2) := by decide +kernel
theorem dX3_porter_53 : decode cX3_porter 53 = .ok (.bipush 7, 2) := by decide +kernel
theorem dX3_porter_55 : decode cX3_porter 55 = .ok (.iconst 1, 1) := by decide +kernel
theorem dX3_porter_56 : decode cX3_porter 56 = .ok (.invokevirtual 151, 3) := by decide +kernel
theorem dX3_porter_59 : decode cX3_porter 59 = .ok (.aload_n 0, 1) := by decide +kernel
theorem dX3_porter_60 : decode cX3_porter 60 = .ok (.getfield 16, 3) := by decide +kernel
theorem dX3_porter_63 : decode cX3_porter 63 = .ok (.iload_n 1, 1) := by decide +kernel
theorem dX3_porter_64 : decode cX3_porter 64 = .ok (.invokevirtual 131, 3) := by decide +kernel
theorem dX3_porter_67 : decode cX3_porter 67 = .ok (.aload_n 0, 1) := by decide +kernel
theorem dX3_porter_68 : decode cX3_porter 68 = .ok (.getfield 16, 3) := by decide +kernel
theorem dX3_porter_71 : decode cX3_porter 71 = .ok (.invokevirtual 145, 3) := by decide +kernel
theorem dX3_porter_74 : decode cX3_porter 74 = .ok (.istore 5, 2) := by decide +kernel
theorem dX3_porter_76 : decode cX3_porter 76 = .ok (.iload 5, 2) := by decide +kernel
theorem dX3_porter_78 : decode cX3_porter 78 = .ok (.iload_n 3, 1) := by decide +kernel
theorem dX3_porter_79 : decode cX3_porter 79 = .ok (.if_icmp .le 9, 3) := by decide +kernel
theorem dX3_porter_82 : decode cX3_porter 82 = .ok (.iload 5, 2) := by decide +kernel
theorem dX3_porter_84 : decode cX3_porter 84 = .ok (.istore_n 3, 1) := by decide +kernel
theorem dX3_porter_85 : decode cX3_porter 85 = .ok (.iload 4, 2) := by decide +kernel
theorem dX3_porter_87 : decode cX3_porter 87 = .ok (.istore_n 2, 1) := by decide +kernel
theorem dX3_porter_88 : decode cX3_porter 88 = .ok (.iinc 4 1, 3) := by decide +kernel
theorem dX3_porter_91 : decode cX3_porter 91 = .ok (.goto (-67), 3) := by decide +kernel
theorem dX3_porter_94 : decode cX3_porter 94 = .ok (.iload_n 2, 1) := by decide +kernel
theorem dX3_porter_95 : decode cX3_porter 95 = .ok (.iconst (-1), 1) := by decide +kernel
theorem dX3_porter_96 : decode cX3_porter 96 = .ok (.if_icmp .ne 12, 3) := by decide +kernel
theorem dX3_porter_99 : decode cX3_porter 99 = .ok (.aload_n 0, 1) := by decide +kernel
theorem dX3_porter_100 : decode cX3_porter 100 = .ok (.ldc 154, 2) := by decide +kernel
theorem dX3_porter_102 : decode cX3_porter 102 = .ok (.invokevirtual 52, 3) := by decide +kernel
theorem dX3_porter_105 : decode cX3_porter 105 = .ok (.goto 4, 3) := by decide +kernel
theorem dX3_porter_108 : decode cX3_porter 108 = .ok (.iload_n 2, 1) := by decide +kernel
theorem dX3_porter_109 : decode cX3_porter 109 = .ok (.ireturn, 1) := by decide +kernel
theorem dX3_by_0 : decode cX3_by 0 = .ok (.iload_n 1, 1) := by decide +kernel
theorem dX3_by_1 : decode cX3_by 1 = .ok (.iconst 1, 1) := by decide +kernel
theorem dX3_by_2 : decode cX3_by 2 = .ok (.bipush 40, 2) := by decide +kernel
theorem dX3_by_4 : decode cX3_by 4 = .ok (.invokestatic 47, 3) := by decide +kernel
theorem dX3_by_7 : decode cX3_by 7 = .ok (.ifCond .ne 13, 3) := by decide +kernel
theorem dX3_by_10 : decode cX3_by 10 = .ok (.iload_n 2, 1) := by decide +kernel
theorem dX3_by_11 : decode cX3_by 11 = .ok (.iconst 0, 1) := by decide +kernel
theorem dX3_by_12 : decode cX3_by 12 = .ok (.bipush 8, 2) := by decide +kernel
theorem dX3_by_14 : decode cX3_by 14 = .ok (.invokestatic 47, 3) := by decide +kernel
theorem dX3_by_17 : decode cX3_by 17 = .ok (.ifCond .eq 10, 3) := by decide +kernel
theorem dX3_by_20 : decode cX3_by 20 = .ok (.aload_n 0, 1) := by decide +kernel
theorem dX3_by_21 : decode cX3_by 21 = .ok (.ldc 51, 2) := by decide +kernel
theorem dX3_by_23 : decode cX3_by 23 = .ok (.invokevirtual 52, 3) := by decide +kernel
theorem dX3_by_26 : decode cX3_by 26 = .ok (.ireturn, 1) := by decide +kernel
theorem dX3_by_27 : decode cX3_by 27 = .ok (.iconst 0, 1) := by decide +kernel
theorem dX3_by_28 : decode cX3_by 28 = .ok (.istore_n 3, 1) := by decide +kernel
theorem dX3_by_29 : decode cX3_by 29 = .ok (.iload_n 3, 1) := by decide +kernel
theorem dX3_by_30 : decode cX3_by 30 = .ok (.bipush 8, 2) := by decide +kernel
theorem dX3_by_32 : decode cX3_by 32 = .ok (.if_icmp .gt 49, 3) := by decide +kernel
theorem dX3_by_35 : decode cX3_by 35 = .ok (.aload_n 0, 1) := by decide +kernel
theorem dX3_by_36 : decode cX3_by 36 = .ok (.getfield 16, 3) := by decide +kernel
theorem dX3_by_39 : decode cX3_by 39 = .ok (.aload_n 0, 1) := by decide +kernel
theorem dX3_by_40 : decode cX3_by 40 = .ok (.getfield 10, 3) := by decide +kernel
theorem dX3_by_43 : decode cX3_by 43 = .ok (.invokevirtual 135, 3) := by decide +kernel
theorem dX3_by_46 : decode cX3_by 46 = .ok (.aload_n 0, 1) := by decide +kernel
theorem dX3_by_47 : decode cX3_by 47 = .ok (.getfield 16, 3) := by decide +kernel
theorem dX3_by_50 : decode cX3_by 50 = .ok (.iload_n 3, 1) := by decide +kernel
theorem dX3_by_51 : decode cX3_by 51 = .ok (.putfield 56, 3) := by decide +kernel
theorem dX3_by_54 : decode cX3_by 54 = .ok (.aload_n 0, 1) := by decide +kernel
theorem dX3_by_55 : decode cX3_by 55 = .ok (.getfield 16, 3) := by decide +kernel
theorem dX3_by_58 : decode cX3_by 58 = .ok (.iload_n 1, 1) := by decide +kernel
theorem dX3_by_59 : decode cX3_by 59 = .ok (.invokevirtual 131, 3) := by decide +kernel
theorem dX3_by_62 : decode cX3_by 62 = .ok (.aload_n 0, 1) := by decide +kernel
theorem dX3_by_63 : decode cX3_by 63 = .ok (.getfield 16, 3) := by decide +kernel
theorem dX3_by_66 : decode cX3_by 66 = .ok (.invokevirtual 145, 3) := by decide +kernel
theorem dX3_by_69 : decode cX3_by 69 = .ok (.iload_n 2, 1) := by decide +kernel
theorem dX3_by_70 : decode cX3_by 70 = .ok (.if_icmp .lt 5, 3) := by decide +kernel
theorem dX3_by_73 : decode cX3_by 73 = .ok (.iload_n 3, 1) := by decide +kernel
theorem dX3_by_74 : decode cX3_by 74 = .ok (.ireturn, 1) := by decide +kernel
theorem dX3_by_75 : decode cX3_by 75 = .ok (.iinc 3 1, 3) := by decide +kernel
theorem dX3_by_78 : decode cX3_by 78 = .ok (.goto (-49), 3) := by decide +kernel
theorem dX3_by_81 : decode cX3_by 81 = .ok (.aload_n 0, 1) := by decide +kernel
theorem dX3_by_82 : decode cX3_by 82 = .ok (.ldc 154, 2) := by decide +kernel
theorem dX3_by_84 : decode cX3_by 84 = .ok (.invokevirtual 52, 3) := by decide +kernel
theorem dX3_by_87 : decode cX3_by 87 = .ok (.ireturn, 1) := by decide +kernel
theorem dX3_kind_0 : decode cX3_kind 0 = .ok (.aload_n 0, 1) := by decide +kernel
theorem dX3_kind_1 : decode cX3_kind 1 = .ok (.getfield 10, 3) := by decide +kernel
theorem dX3_kind_4 : decode cX3_kind 4 = .ok (.iload_n 1, 1) := by decide +kernel
theorem dX3_kind_5 : decode cX3_kind 5 = .ok (.invokevirtual 95, 3) := by decide +kernel
theorem dX3_kind_8 : decode cX3_kind 8 = .ok (.ifCond .ne 13, 3) := by decide +kernel
theorem dX3_kind_11 : decode cX3_kind 11 = .ok (.iload_n 2, 1) := by decide +kernel
theorem dX3_kind_12 : decode cX3_kind 12 = .ok (.iconst 1, 1) := by decide +kernel
theorem dX3_kind_13 : decode cX3_kind 13 = .ok (.bipush 60, 2) := by decide +kernel
theorem dX3_kind_15 : decode cX3_kind 15 = .ok (.invokestatic 47, 3) := by decide +kernel
theorem dX3_kind_18 : decode cX3_kind 18 = .ok (.ifCond .eq 10, 3) := by decide +kernel
theorem dX3_kind_21 : decode cX3_kind 21 = .ok (.aload_n 0, 1) := by decide +kernel
theorem dX3_kind_22 : decode cX3_kind 22 = .ok (.ldc 51, 2) := by decide +kernel
theorem dX3_kind_24 : decode cX3_kind 24 = .ok (.invokevirtual 52, 3) := by decide +kernel
theorem dX3_kind_27 : decode cX3_kind 27 = .ok (.ireturn, 1) := by decide +kernel
theorem dX3_kind_28 : decode cX3_kind 28 = .ok (.iconst 0, 1) := by decide +kernel
theorem dX3_kind_29 : decode cX3_kind 29 = .ok (.istore_n 3, 1) := by decide +kernel
theorem dX3_kind_30 : decode cX3_kind 30 = .ok (.iconst (-1), 1) := by decide +kernel
theorem dX3_kind_31 : decode cX3_kind 31 = .ok (.istore 4, 2) := by decide +kernel
theorem dX3_kind_33 : decode cX3_kind 33 = .ok (.iconst 0, 1) := by decide +kernel
theorem dX3_kind_34 : decode cX3_kind 34 = .ok (.istore 5, 2) := by decide +kernel
theorem dX3_kind_36 : decode cX3_kind 36 = .ok (.iload 5, 2) := by decide +kernel
theorem dX3_kind_38 : decode cX3_kind 38 = .ok (.iconst 5, 1) := by decide +kernel
theorem dX3_kind_39 : decode cX3_kind 39 = .ok (.if_icmp .gt 51, 3) := by decide +kernel
theorem dX3_kind_42 : decode cX3_kind 42 = .ok (.aload_n 0, 1) := by decide +kernel
theorem dX3_kind_43 : decode cX3_kind 43 = .ok (.iload_n 1, 1) := by decide +kernel
theorem dX3_kind_44 : decode cX3_kind 44 = .ok (.iconst 0, 1) := by decide +kernel
theorem dX3_kind_45 : decode cX3_kind 45 = .ok (.iload 5, 2) := by decide +kernel
theorem dX3_kind_47 : decode cX3_kind 47 = .ok (.invokevirtual 151, 3) := by decide +kernel
theorem dX3_kind_50 : decode cX3_kind 50 = .ok (.aload_n 0, 1) := by decide +kernel
theorem dX3_kind_51 : decode cX3_kind 51 = .ok (.getfield 16, 3) := by decide +kernel
theorem dX3_kind_54 : decode cX3_kind 54 = .ok (.iload_n 2, 1) := by decide +kernel
theorem dX3_kind_55 : decode cX3_kind 55 = .ok (.invokevirtual 131, 3) := by decide +kernel
theorem dX3_kind_58 : decode cX3_kind 58 = .ok (.aload_n 0, 1) := by decide +kernel
theorem dX3_kind_59 : decode cX3_kind 59 = .ok (.getfield 16, 3) := by decide +kernel
theorem dX3_kind_62 : decode cX3_kind 62 = .ok (.iload_n 1, 1) := by decide +kernel
theorem dX3_kind_63 : decode cX3_kind 63 = .ok (.bipush 8, 2) := by decide +kernel
theorem dX3_kind_65 : decode cX3_kind 65 = .ok (.invokevirtual 108, 3) := by decide +kernel
theorem dX3_kind_68 : decode cX3_kind 68 = .ok (.istore 6, 2) := by decide +kernel
theorem dX3_kind_70 : decode cX3_kind 70 = .ok (.iload 6, 2) := by decide +kernel
theorem dX3_kind_72 : decode cX3_kind 72 = .ok (.iload 4, 2) := by decide +kernel
theorem dX3_kind_74 : decode cX3_kind 74 = .ok (.if_icmp .le 10, 3) := by decide +kernel
theorem dX3_kind_77 : decode cX3_kind 77 = .ok (.iload 6, 2) := by decide +kernel
theorem dX3_kind_79 : decode cX3_kind 79 = .ok (.istore 4, 2) := by decide +kernel
theorem dX3_kind_81 : decode cX3_kind 81 = .ok (.iload 5, 2) := by decide +kernel
theorem dX3_kind_83 : decode cX3_kind 83 = .ok (.istore_n 3, 1) := by decide +kernel
theorem dX3_kind_84 : decode cX3_kind 84 = .ok (.iinc 5 1, 3) := by decide +kernel
theorem dX3_kind_87 : decode cX3_kind 87 = .ok (.goto (-51), 3) := by decide +kernel
theorem dX3_kind_90 : decode cX3_kind 90 = .ok (.iload_n 3, 1) := by decide +kernel
theorem dX3_kind_91 : decode cX3_kind 91 = .ok (.ireturn, 1) := by decide +kernel
theorem dX3_place_0 : decode cX3_place 0 = .ok (.aload_n 0, 1) := by decide +kernel
theorem dX3_place_1 : decode cX3_place 1 = .ok (.getfield 10, 3) := by decide +kernel
theorem dX3_place_4 : decode cX3_place 4 = .ok (.iload_n 1, 1) := by decide +kernel
theorem dX3_place_5 : decode cX3_place 5 = .ok (.invokevirtual 95, 3) := by decide +kernel
theorem dX3_place_8 : decode cX3_place 8 = .ok (.ifCond .ne 13, 3) := by decide +kernel
theorem dX3_place_11 : decode cX3_place 11 = .ok (.iload_n 2, 1) := by decide +kernel
theorem dX3_place_12 : decode cX3_place 12 = .ok (.iconst 1, 1) := by decide +kernel
theorem dX3_place_13 : decode cX3_place 13 = .ok (.bipush 40, 2) := by decide +kernel
theorem dX3_place_15 : decode cX3_place 15 = .ok (.invokestatic 47, 3) := by decide +kernel
theorem dX3_place_18 : decode cX3_place 18 = .ok (.ifCond .eq 10, 3) := by decide +kernel
theorem dX3_place_21 : decode cX3_place 21 = .ok (.aload_n 0, 1) := by decide +kernel
theorem dX3_place_22 : decode cX3_place 22 = .ok (.ldc 51, 2) := by decide +kernel
theorem dX3_place_24 : decode cX3_place 24 = .ok (.invokevirtual 52, 3) := by decide +kernel
theorem dX3_place_27 : decode cX3_place 27 = .ok (.ireturn, 1) := by decide +kernel
theorem dX3_place_28 : decode cX3_place 28 = .ok (.aload_n 0, 1) := by decide +kernel
theorem dX3_place_29 : decode cX3_place 29 = .ok (.iload_n 1, 1) := by decide +kernel
theorem dX3_place_30 : decode cX3_place 30 = .ok (.iconst 2, 1) := by decide +kernel
theorem dX3_place_31 : decode cX3_place 31 = .ok (.bipush 19, 2) := by decide +kernel
theorem dX3_place_33 : decode cX3_place 33 = .ok (.iload_n 2, 1) := by decide +kernel
theorem dX3_place_34 : decode cX3_place 34 = .ok (.invokevirtual 155, 3) := by decide +kernel
theorem dX3_place_37 : decode cX3_place 37 = .ok (.ireturn, 1) := by decide +kernel
theorem dX3_clash_0 : decode cX3_clash 0 = .ok (.iload_n 1, 1) := by decide +kernel
theorem dX3_clash_1 : decode cX3_clash 1 = .ok (.iconst 1, 1) := by decide +kernel
theorem dX3_clash_2 : decode cX3_clash 2 = .ok (.bipush 60, 2) := by decide +kernel
theorem dX3_clash_4 : decode cX3_clash 4 = .ok (.invokestatic 47, 3) := by decide +kernel
theorem dX3_clash_7 : decode cX3_clash 7 = .ok (.ifCond .eq 10, 3) := by decide +kernel
theorem dX3_clash_10 : decode cX3_clash 10 = .ok (.aload_n 0, 1) := by decide +kernel
theorem dX3_clash_11 : decode cX3_clash 11 = .ok (.ldc 51, 2) := by decide +kernel
theorem dX3_clash_13 : decode cX3_clash 13 = .ok (.invokevirtual 52, 3) := by decide +kernel
theorem dX3_clash_16 : decode cX3_clash 16 = .ok (.ireturn, 1) := by decide +kernel
theorem dX3_clash_17 : decode cX3_clash 17 = .ok (.aload_n 0, 1) := by decide +kernel
theorem dX3_clash_18 : decode cX3_clash 18 = .ok (.iload_n 1, 1) := by decide +kernel
theorem dX3_clash_19 : decode cX3_clash 19 = .ok (.invokevirtual 159, 3) := by decide +kernel
theorem dX3_clash_22 : decode cX3_clash 22 = .ok (.iconst 0, 1) := by decide +kernel
theorem dX3_clash_23 : decode cX3_clash 23 = .ok (.istore_n 2, 1) := by decide +kernel
theorem dX3_clash_24 : decode cX3_clash 24 = .ok (.iload_n 2, 1) := by decide +kernel
theorem dX3_clash_25 : decode cX3_clash 25 = .ok (.aload_n 0, 1) := by decide +kernel
theorem dX3_clash_26 : decode cX3_clash 26 = .ok (.getfield 10, 3) := by decide +kernel
theorem dX3_clash_29 : decode cX3_clash 29 = .ok (.getfield 148, 3) := by decide +kernel
theorem dX3_clash_32 : decode cX3_clash 32 = .ok (.if_icmp .ge 46, 3) := by decide +kernel
theorem dX3_clash_35 : decode cX3_clash 35 = .ok (.iload_n 2, 1) := by decide +kernel
theorem dX3_clash_36 : decode cX3_clash 36 = .ok (.iconst 1, 1) := by decide +kernel
theorem dX3_clash_37 : decode cX3_clash 37 = .ok (.iadd, 1) := by decide +kernel
theorem dX3_clash_38 : decode cX3_clash 38 = .ok (.istore_n 3, 1) := by decide +kernel
theorem dX3_clash_39 : decode cX3_clash 39 = .ok (.iload_n 3, 1) := by decide +kernel
theorem dX3_clash_40 : decode cX3_clash 40 = .ok (.aload_n 0, 1) := by decide +kernel
theorem dX3_clash_41 : decode cX3_clash 41 = .ok (.getfield 10, 3) := by decide +kernel
theorem dX3_clash_44 : decode cX3_clash 44 = .ok (.getfield 148, 3) := by decide +kernel
theorem dX3_clash_47 : decode cX3_clash 47 = .ok (.if_icmp .ge 25, 3) := by decide +kernel
theorem dX3_clash_50 : decode cX3_clash 50 = .ok (.aload_n 0, 1) := by decide +kernel
theorem dX3_clash_51 : decode cX3_clash 51 = .ok (.iload_n 2, 1) := by decide +kernel
theorem dX3_clash_52 : decode cX3_clash 52 = .ok (.iload_n 3, 1) := by decide +kernel
theorem dX3_clash_53 : decode cX3_clash 53 = .ok (.invokevirtual 162, 3) := by decide +kernel
theorem dX3_clash_56 : decode cX3_clash 56 = .ok (.ifCond .eq 10, 3) := by decide +kernel
theorem dX3_clash_59 : decode cX3_clash 59 = .ok (.bipush 10, 2) := by decide +kernel
theorem dX3_clash_61 : decode cX3_clash 61 = .ok (.iload_n 2, 1) := by decide +kernel
theorem dX3_clash_62 : decode cX3_clash 62 = .ok (.imul, 1) := by decide +kernel
theorem dX3_clash_63 : decode cX3_clash 63 = .ok (.iload_n 3, 1) := by decide +kernel
theorem dX3_clash_64 : decode cX3_clash 64 = .ok (.iadd, 1) := by decide +kernel
theorem dX3_clash_65 : decode cX3_clash 65 = .ok (.ireturn, 1) := by decide +kernel
theorem dX3_clash_66 : decode cX3_clash 66 = .ok (.iinc 3 1, 3) := by decide +kernel
theorem dX3_clash_69 : decode cX3_clash 69 = .ok (.goto (-30), 3) := by decide +kernel
theorem dX3_clash_72 : decode cX3_clash 72 = .ok (.iinc 2 1, 3) := by decide +kernel
theorem dX3_clash_75 : decode cX3_clash 75 = .ok (.goto (-51), 3) := by decide +kernel
theorem dX3_clash_78 : decode cX3_clash 78 = .ok (.aload_n 0, 1) := by decide +kernel
theorem dX3_clash_79 : decode cX3_clash 79 = .ok (.ldc 154, 2) := by decide +kernel
theorem dX3_clash_81 : decode cX3_clash 81 = .ok (.invokevirtual 52, 3) := by decide +kernel
theorem dX3_clash_84 : decode cX3_clash 84 = .ok (.ireturn, 1) := by decide +kernel
theorem dX3_want_0 : decode cX3_want 0 = .ok (.aload_n 0, 1) := by decide +kernel
theorem dX3_want_1 : decode cX3_want 1 = .ok (.getfield 10, 3) := by decide +kernel
theorem dX3_want_4 : decode cX3_want 4 = .ok (.iload_n 1, 1) := by decide +kernel
theorem dX3_want_5 : decode cX3_want 5 = .ok (.invokevirtual 95, 3) := by decide +kernel
theorem dX3_want_8 : decode cX3_want 8 = .ok (.ifCond .ne 13, 3) := by decide +kernel
theorem dX3_want_11 : decode cX3_want 11 = .ok (.iload_n 2, 1) := by decide +kernel
theorem dX3_want_12 : decode cX3_want 12 = .ok (.iconst 1, 1) := by decide +kernel
theorem dX3_want_13 : decode cX3_want 13 = .ok (.bipush 40, 2) := by decide +kernel
theorem dX3_want_15 : decode cX3_want 15 = .ok (.invokestatic 47, 3) := by decide +kernel
theorem dX3_want_18 : decode cX3_want 18 = .ok (.ifCond .eq 10, 3) := by decide +kernel
theorem dX3_want_21 : decode cX3_want 21 = .ok (.aload_n 0, 1) := by decide +kernel
theorem dX3_want_22 : decode cX3_want 22 = .ok (.ldc 51, 2) := by decide +kernel
theorem dX3_want_24 : decode cX3_want 24 = .ok (.invokevirtual 52, 3) := by decide +kernel
theorem dX3_want_27 : decode cX3_want 27 = .ok (.ireturn, 1) := by decide +kernel
theorem dX3_want_28 : decode cX3_want 28 = .ok (.aload_n 0, 1) := by decide +kernel
theorem dX3_want_29 : decode cX3_want 29 = .ok (.iload_n 1, 1) := by decide +kernel
theorem dX3_want_30 : decode cX3_want 30 = .ok (.iconst 5, 1) := by decide +kernel
theorem dX3_want_31 : decode cX3_want 31 = .ok (.iconst 4, 1) := by decide +kernel
theorem dX3_want_32 : decode cX3_want 32 = .ok (.iload_n 2, 1) := by decide +kernel
theorem dX3_want_33 : decode cX3_want 33 = .ok (.invokevirtual 155, 3) := by decide +kernel
theorem dX3_want_36 : decode cX3_want 36 = .ok (.ireturn, 1) := by decide +kernel
theorem dX3_nose_0 : decode cX3_nose 0 = .ok (.aload_n 0, 1) := by decide +kernel
theorem dX3_nose_1 : decode cX3_nose 1 = .ok (.getfield 10, 3) := by decide +kernel
theorem dX3_nose_4 : decode cX3_nose 4 = .ok (.iload_n 1, 1) := by decide +kernel
theorem dX3_nose_5 : decode cX3_nose 5 = .ok (.invokevirtual 95, 3) := by decide +kernel
theorem dX3_nose_8 : decode cX3_nose 8 = .ok (.ifCond .ne 13, 3) := by decide +kernel
theorem dX3_nose_11 : decode cX3_nose 11 = .ok (.iload_n 2, 1) := by decide +kernel
theorem dX3_nose_12 : decode cX3_nose 12 = .ok (.iconst 0, 1) := by decide +kernel
theorem dX3_nose_13 : decode cX3_nose 13 = .ok (.bipush 40, 2) := by decide +kernel
theorem dX3_nose_15 : decode cX3_nose 15 = .ok (.invokestatic 47, 3) := by decide +kernel
theorem dX3_nose_18 : decode cX3_nose 18 = .ok (.ifCond .eq 10, 3) := by decide +kernel
theorem dX3_nose_21 : decode cX3_nose 21 = .ok (.aload_n 0, 1) := by decide +kernel
theorem dX3_nose_22 : decode cX3_nose 22 = .ok (.ldc 51, 2) := by decide +kernel
theorem dX3_nose_24 : decode cX3_nose 24 = .ok (.invokevirtual 52, 3) := by decide +kernel
theorem dX3_nose_27 : decode cX3_nose 27 = .ok (.ireturn, 1) := by decide +kernel
theorem dX3_nose_28 : decode cX3_nose 28 = .ok (.bipush 99, 2) := by decide +kernel
theorem dX3_nose_30 : decode cX3_nose 30 = .ok (.istore_n 3, 1) := by decide +kernel
theorem dX3_nose_31 : decode cX3_nose 31 = .ok (.iload_n 3, 1) := by decide +kernel
theorem dX3_nose_32 : decode cX3_nose 32 = .ok (.ifCond .lt 40, 3) := by decide +kernel
theorem dX3_nose_35 : decode cX3_nose 35 = .ok (.aload_n 0, 1) := by decide +kernel
theorem dX3_nose_36 : decode cX3_nose 36 = .ok (.iload_n 1, 1) := by decide +kernel
theorem dX3_nose_37 : decode cX3_nose 37 = .ok (.iconst 3, 1) := by decide +kernel
theorem dX3_nose_38 : decode cX3_nose 38 = .ok (.iload_n 3, 1) := by decide +kernel
theorem dX3_nose_39 : decode cX3_nose 39 = .ok (.invokevirtual 151, 3) := by decide +kernel
theorem dX3_nose_42 : decode cX3_nose 42 = .ok (.aload_n 0, 1) := by decide +kernel
theorem dX3_nose_43 : decode cX3_nose 43 = .ok (.getfield 16, 3) := by decide +kernel
theorem dX3_nose_46 : decode cX3_nose 46 = .ok (.iload_n 2, 1) := by decide +kernel
theorem dX3_nose_47 : decode cX3_nose 47 = .ok (.invokevirtual 131, 3) := by decide +kernel
theorem dX3_nose_50 : decode cX3_nose 50 = .ok (.aload_n 0, 1) := by decide +kernel
theorem dX3_nose_51 : decode cX3_nose 51 = .ok (.getfield 16, 3) := by decide +kernel
theorem dX3_nose_54 : decode cX3_nose 54 = .ok (.iload_n 1, 1) := by decide +kernel
theorem dX3_nose_55 : decode cX3_nose 55 = .ok (.iconst 3, 1) := by decide +kernel
theorem dX3_nose_56 : decode cX3_nose 56 = .ok (.invokevirtual 108, 3) := by decide +kernel
theorem dX3_nose_59 : decode cX3_nose 59 = .ok (.bipush 10, 2) := by decide +kernel
theorem dX3_nose_61 : decode cX3_nose 61 = .ok (.if_icmp .gt 5, 3) := by decide +kernel
theorem dX3_nose_64 : decode cX3_nose 64 = .ok (.iload_n 3, 1) := by decide +kernel
theorem dX3_nose_65 : decode cX3_nose 65 = .ok (.ireturn, 1) := by decide +kernel
theorem dX3_nose_66 : decode cX3_nose 66 = .ok (.iinc 3 (-1), 3) := by decide +kernel
theorem dX3_nose_69 : decode cX3_nose 69 = .ok (.goto (-38), 3) := by decide +kernel
theorem dX3_nose_72 : decode cX3_nose 72 = .ok (.aload_n 0, 1) := by decide +kernel
theorem dX3_nose_73 : decode cX3_nose 73 = .ok (.ldc 154, 2) := by decide +kernel
theorem dX3_nose_75 : decode cX3_nose 75 = .ok (.invokevirtual 52, 3) := by decide +kernel
theorem dX3_nose_78 : decode cX3_nose 78 = .ok (.ireturn, 1) := by decide +kernel
theorem dX3_feed_0 : decode cX3_feed 0 = .ok (.iload_n 2, 1) := by decide +kernel
theorem dX3_feed_1 : decode cX3_feed 1 = .ok (.iconst 1, 1) := by decide +kernel
theorem dX3_feed_2 : decode cX3_feed 2 = .ok (.iconst 4, 1) := by decide +kernel
theorem dX3_feed_3 : decode cX3_feed 3 = .ok (.invokestatic 47, 3) := by decide +kernel
theorem dX3_feed_6 : decode cX3_feed 6 = .ok (.ifCond .eq 10, 3) := by decide +kernel
theorem dX3_feed_9 : decode cX3_feed 9 = .ok (.aload_n 0, 1) := by decide +kernel
theorem dX3_feed_10 : decode cX3_feed 10 = .ok (.ldc 51, 2) := by decide +kernel
theorem dX3_feed_12 : decode cX3_feed 12 = .ok (.invokevirtual 52, 3) := by decide +kernel
theorem dX3_feed_15 : decode cX3_feed 15 = .ok (.ireturn, 1) := by decide +kernel
theorem dX3_feed_16 : decode cX3_feed 16 = .ok (.aload_n 0, 1) := by decide +kernel
theorem dX3_feed_17 : decode cX3_feed 17 = .ok (.getfield 29, 3) := by decide +kernel
theorem dX3_feed_20 : decode cX3_feed 20 = .ok (.getfield 165, 3) := by decide +kernel
theorem dX3_feed_23 : decode cX3_feed 23 = .ok (.bipush 120, 2) := by decide +kernel
theorem dX3_feed_25 : decode cX3_feed 25 = .ok (.iload_n 2, 1) := by decide +kernel
theorem dX3_feed_26 : decode cX3_feed 26 = .ok (.isub, 1) := by decide +kernel
theorem dX3_feed_27 : decode cX3_feed 27 = .ok (.if_icmp .le 10, 3) := by decide +kernel
theorem dX3_feed_30 : decode cX3_feed 30 = .ok (.aload_n 0, 1) := by decide +kernel
theorem dX3_feed_31 : decode cX3_feed 31 = .ok (.ldc 90, 2) := by decide +kernel
theorem dX3_feed_33 : decode cX3_feed 33 = .ok (.invokevirtual 52, 3) := by decide +kernel
theorem dX3_feed_36 : decode cX3_feed 36 = .ok (.ireturn, 1) := by decide +kernel
theorem dX3_feed_37 : decode cX3_feed 37 = .ok (.iload_n 2, 1) := by decide +kernel
theorem dX3_feed_38 : decode cX3_feed 38 = .ok (.iconst 1, 1) := by decide +kernel
theorem dX3_feed_39 : decode cX3_feed 39 = .ok (.isub, 1) := by decide +kernel
theorem dX3_feed_40 : decode cX3_feed 40 = .ok (.istore_n 3, 1) := by decide +kernel
theorem dX3_feed_41 : decode cX3_feed 41 = .ok (.iload_n 3, 1) := by decide +kernel
theorem dX3_feed_42 : decode cX3_feed 42 = .ok (.ifCond .lt 26, 3) := by decide +kernel
theorem dX3_feed_45 : decode cX3_feed 45 = .ok (.aload_n 0, 1) := by decide +kernel
theorem dX3_feed_46 : decode cX3_feed 46 = .ok (.getfield 29, 3) := by decide +kernel
theorem dX3_feed_49 : decode cX3_feed 49 = .ok (.iload_n 1, 1) := by decide +kernel
theorem dX3_feed_50 : decode cX3_feed 50 = .ok (.bipush 8, 2) := by decide +kernel
theorem dX3_feed_52 : decode cX3_feed 52 = .ok (.iload_n 3, 1) := by decide +kernel
theorem dX3_feed_53 : decode cX3_feed 53 = .ok (.imul, 1) := by decide +kernel
theorem dX3_feed_54 : decode cX3_feed 54 = .ok (.iushr, 1) := by decide +kernel
theorem dX3_feed_55 : decode cX3_feed 55 = .ok (.sipush 255, 3) := by decide +kernel
theorem dX3_feed_58 : decode cX3_feed 58 = .ok (.iand, 1) := by decide +kernel
theorem dX3_feed_59 : decode cX3_feed 59 = .ok (.invokevirtual 168, 3) := by decide +kernel
theorem dX3_feed_62 : decode cX3_feed 62 = .ok (.iinc 3 (-1), 3) := by decide +kernel
theorem dX3_feed_65 : decode cX3_feed 65 = .ok (.goto (-24), 3) := by decide +kernel
theorem dX3_feed_68 : decode cX3_feed 68 = .ok (.aload_n 0, 1) := by decide +kernel
theorem dX3_feed_69 : decode cX3_feed 69 = .ok (.getfield 29, 3) := by decide +kernel
theorem dX3_feed_72 : decode cX3_feed 72 = .ok (.getfield 165, 3) := by decide +kernel
theorem dX3_feed_75 : decode cX3_feed 75 = .ok (.ireturn, 1) := by decide +kernel
theorem dX3_wipe_0 : decode cX3_wipe 0 = .ok (.aload_n 0, 1) := by decide +kernel
theorem dX3_wipe_1 : decode cX3_wipe 1 = .ok (.getfield 29, 3) := by decide +kernel
theorem dX3_wipe_4 : decode cX3_wipe 4 = .ok (.getfield 165, 3) := by decide +kernel
theorem dX3_wipe_7 : decode cX3_wipe 7 = .ok (.istore_n 1, 1) := by decide +kernel
theorem dX3_wipe_8 : decode cX3_wipe 8 = .ok (.aload_n 0, 1) := by decide +kernel
theorem dX3_wipe_9 : decode cX3_wipe 9 = .ok (.getfield 29, 3) := by decide +kernel
theorem dX3_wipe_12 : decode cX3_wipe 12 = .ok (.iconst 0, 1) := by decide +kernel
theorem dX3_wipe_13 : decode cX3_wipe 13 = .ok (.putfield 165, 3) := by decide +kernel
theorem dX3_wipe_16 : decode cX3_wipe 16 = .ok (.iload_n 1, 1) := by decide +kernel
theorem dX3_wipe_17 : decode cX3_wipe 17 = .ok (.ireturn, 1) := by decide +kernel
theorem dX3_night_0 : decode cX3_night 0 = .ok (.aload_n 0, 1) := by decide +kernel
theorem dX3_night_1 : decode cX3_night 1 = .ok (.getfield 16, 3) := by decide +kernel
theorem dX3_night_4 : decode cX3_night 4 = .ok (.aload_n 0, 1) := by decide +kernel
theorem dX3_night_5 : decode cX3_night 5 = .ok (.getfield 10, 3) := by decide +kernel
theorem dX3_night_8 : decode cX3_night 8 = .ok (.invokevirtual 135, 3) := by decide +kernel
theorem dX3_night_11 : decode cX3_night 11 = .ok (.aload_n 0, 1) := by decide +kernel
theorem dX3_night_12 : decode cX3_night 12 = .ok (.getfield 29, 3) := by decide +kernel
theorem dX3_night_15 : decode cX3_night 15 = .ok (.aload_n 0, 1) := by decide +kernel
theorem dX3_night_16 : decode cX3_night 16 = .ok (.getfield 16, 3) := by decide +kernel
theorem dX3_night_19 : decode cX3_night 19 = .ok (.invokevirtual 171, 3) := by decide +kernel
theorem dX3_night_22 : decode cX3_night 22 = .ok (.istore_n 1, 1) := by decide +kernel
theorem dX3_night_23 : decode cX3_night 23 = .ok (.aload_n 0, 1) := by decide +kernel
theorem dX3_night_24 : decode cX3_night 24 = .ok (.getfield 29, 3) := by decide +kernel
theorem dX3_night_27 : decode cX3_night 27 = .ok (.iconst 0, 1) := by decide +kernel
theorem dX3_night_28 : decode cX3_night 28 = .ok (.putfield 165, 3) := by decide +kernel
theorem dX3_night_31 : decode cX3_night 31 = .ok (.iload_n 1, 1) := by decide +kernel
theorem dX3_night_32 : decode cX3_night 32 = .ok (.ifCond .lt 14, 3) := by decide +kernel
theorem dX3_night_35 : decode cX3_night 35 = .ok (.aload_n 0, 1) := by decide +kernel
theorem dX3_night_36 : decode cX3_night 36 = .ok (.getfield 10, 3) := by decide +kernel
theorem dX3_night_39 : decode cX3_night 39 = .ok (.aload_n 0, 1) := by decide +kernel
theorem dX3_night_40 : decode cX3_night 40 = .ok (.getfield 16, 3) := by decide +kernel
theorem dX3_night_43 : decode cX3_night 43 = .ok (.invokevirtual 135, 3) := by decide +kernel
theorem dX3_night_46 : decode cX3_night 46 = .ok (.iload_n 1, 1) := by decide +kernel
theorem dX3_night_47 : decode cX3_night 47 = .ok (.ireturn, 1) := by decide +kernel
theorem dX3_sheet_0 : decode cX3_sheet 0 = .ok (.aload_n 0, 1) := by decide +kernel
theorem dX3_sheet_1 : decode cX3_sheet 1 = .ok (.iload_n 1, 1) := by decide +kernel
theorem dX3_sheet_2 : decode cX3_sheet 2 = .ok (.invokevirtual 175, 3) := by decide +kernel
theorem dX3_sheet_5 : decode cX3_sheet 5 = .ok (.astore 4, 2) := by decide +kernel
theorem dX3_sheet_7 : decode cX3_sheet 7 = .ok (.aload 4, 2) := by decide +kernel
theorem dX3_sheet_9 : decode cX3_sheet 9 = .ok (.ifnull 25, 3) := by decide +kernel
theorem dX3_sheet_12 : decode cX3_sheet 12 = .ok (.iload_n 2, 1) := by decide +kernel
theorem dX3_sheet_13 : decode cX3_sheet 13 = .ok (.ifCond .eq 28, 3) := by decide +kernel
theorem dX3_sheet_16 : decode cX3_sheet 16 = .ok (.iload_n 2, 1) := by decide +kernel
theorem dX3_sheet_17 : decode cX3_sheet 17 = .ok (.bipush 8, 2) := by decide +kernel
theorem dX3_sheet_19 : decode cX3_sheet 19 = .ok (.if_icmp .eq 22, 3) := by decide +kernel
theorem dX3_sheet_22 : decode cX3_sheet 22 = .ok (.iload_n 2, 1) := by decide +kernel
theorem dX3_sheet_23 : decode cX3_sheet 23 = .ok (.bipush 16, 2) := by decide +kernel
theorem dX3_sheet_25 : decode cX3_sheet 25 = .ok (.if_icmp .eq 16, 3) := by decide +kernel
theorem dX3_sheet_28 : decode cX3_sheet 28 = .ok (.iload_n 2, 1) := by decide +kernel
theorem dX3_sheet_29 : decode cX3_sheet 29 = .ok (.bipush 64, 2) := by decide +kernel
theorem dX3_sheet_31 : decode cX3_sheet 31 = .ok (.if_icmp .eq 10, 3) := by decide +kernel
theorem dX3_sheet_34 : decode cX3_sheet 34 = .ok (.aload_n 0, 1) := by decide +kernel
theorem dX3_sheet_35 : decode cX3_sheet 35 = .ok (.ldc 51, 2) := by decide +kernel
theorem dX3_sheet_37 : decode cX3_sheet 37 = .ok (.invokevirtual 52, 3) := by decide +kernel
theorem dX3_sheet_40 : decode cX3_sheet 40 = .ok (.ireturn, 1) := by decide +kernel
theorem dX3_sheet_41 : decode cX3_sheet 41 = .ok (.iload_n 3, 1) := by decide +kernel
theorem dX3_sheet_42 : decode cX3_sheet 42 = .ok (.ifCond .ge 10, 3) := by decide +kernel
theorem dX3_sheet_45 : decode cX3_sheet 45 = .ok (.aload_n 0, 1) := by decide +kernel
theorem dX3_sheet_46 : decode cX3_sheet 46 = .ok (.ldc 179, 2) := by decide +kernel
theorem dX3_sheet_48 : decode cX3_sheet 48 = .ok (.invokevirtual 52, 3) := by decide +kernel
theorem dX3_sheet_51 : decode cX3_sheet 51 = .ok (.ireturn, 1) := by decide +kernel
theorem dX3_sheet_52 : decode cX3_sheet 52 = .ok (.iload_n 3, 1) := by decide +kernel
theorem dX3_sheet_53 : decode cX3_sheet 53 = .ok (.bipush 40, 2) := by decide +kernel
theorem dX3_sheet_55 : decode cX3_sheet 55 = .ok (.if_icmp .le 10, 3) := by decide +kernel
theorem dX3_sheet_58 : decode cX3_sheet 58 = .ok (.aload_n 0, 1) := by decide +kernel
theorem dX3_sheet_59 : decode cX3_sheet 59 = .ok (.ldc 51, 2) := by decide +kernel
theorem dX3_sheet_61 : decode cX3_sheet 61 = .ok (.invokevirtual 52, 3) := by decide +kernel
theorem dX3_sheet_64 : decode cX3_sheet 64 = .ok (.ireturn, 1) := by decide +kernel
theorem dX3_sheet_65 : decode cX3_sheet 65 = .ok (.aload 4, 2) := by decide +kernel
theorem dX3_sheet_67 : decode cX3_sheet 67 = .ok (.iload_n 2, 1) := by decide +kernel
theorem dX3_sheet_68 : decode cX3_sheet 68 = .ok (.iload_n 3, 1) := by decide +kernel
theorem dX3_sheet_69 : decode cX3_sheet 69 = .ok (.invokevirtual 180, 3) := by decide +kernel
theorem dX3_sheet_72 : decode cX3_sheet 72 = .ok (.aload 4, 2) := by decide +kernel
theorem dX3_sheet_74 : decode cX3_sheet 74 = .ok (.getfield 184, 3) := by decide +kernel
theorem dX3_sheet_77 : decode cX3_sheet 77 = .ok (.ireturn, 1) := by decide +kernel
theorem dX3_write_0 : decode cX3_write 0 = .ok (.aload_n 0, 1) := by decide +kernel
theorem dX3_write_1 : decode cX3_write 1 = .ok (.iload_n 1, 1) := by decide +kernel
theorem dX3_write_2 : decode cX3_write 2 = .ok (.invokevirtual 175, 3) := by decide +kernel
theorem dX3_write_5 : decode cX3_write 5 = .ok (.astore 5, 2) := by decide +kernel
theorem dX3_write_7 : decode cX3_write 7 = .ok (.aload 5, 2) := by decide +kernel
theorem dX3_write_9 : decode cX3_write 9 = .ok (.ifnonnull 11, 3) := by decide +kernel
theorem dX3_write_12 : decode cX3_write 12 = .ok (.aload_n 0, 1) := by decide +kernel
theorem dX3_write_13 : decode cX3_write 13 = .ok (.ldc 51, 2) := by decide +kernel
theorem dX3_write_15 : decode cX3_write 15 = .ok (.invokevirtual 52, 3) := by decide +kernel
theorem dX3_write_18 : decode cX3_write 18 = .ok (.i2l, 1) := by decide +kernel
theorem dX3_write_19 : decode cX3_write 19 = .ok (.lreturn, 1) := by decide +kernel
theorem dX3_write_20 : decode cX3_write 20 = .ok (.aload 5, 2) := by decide +kernel
theorem dX3_write_22 : decode cX3_write 22 = .ok (.invokevirtual 185, 3) := by decide +kernel
theorem dX3_write_25 : decode cX3_write 25 = .ok (.ifCond .eq 11, 3) := by decide +kernel
theorem dX3_write_28 : decode cX3_write 28 = .ok (.aload_n 0, 1) := by decide +kernel
theorem dX3_write_29 : decode cX3_write 29 = .ok (.ldc 188, 2) := by decide +kernel
theorem dX3_write_31 : decode cX3_write 31 = .ok (.invokevirtual 52, 3) := by decide +kernel
theorem dX3_write_34 : decode cX3_write 34 = .ok (.i2l, 1) := by decide +kernel
theorem dX3_write_35 : decode cX3_write 35 = .ok (.lreturn, 1) := by decide +kernel
theorem dX3_write_36 : decode cX3_write 36 = .ok (.iload_n 2, 1) := by decide +kernel
theorem dX3_write_37 : decode cX3_write 37 = .ok (.iconst 0, 1) := by decide +kernel
theorem dX3_write_38 : decode cX3_write 38 = .ok (.aload 5, 2) := by decide +kernel
theorem dX3_write_40 : decode cX3_write 40 = .ok (.getfield 184, 3) := by decide +kernel
theorem dX3_write_43 : decode cX3_write 43 = .ok (.iconst 1, 1) := by decide +kernel
theorem dX3_write_44 : decode cX3_write 44 = .ok (.isub, 1) := by decide +kernel
theorem dX3_write_45 : decode cX3_write 45 = .ok (.invokestatic 47, 3) := by decide +kernel
theorem dX3_write_48 : decode cX3_write 48 = .ok (.ifCond .eq 11, 3) := by decide +kernel
theorem dX3_write_51 : decode cX3_write 51 = .ok (.aload_n 0, 1) := by decide +kernel
theorem dX3_write_52 : decode cX3_write 52 = .ok (.ldc 51, 2) := by decide +kernel
theorem dX3_write_54 : decode cX3_write 54 = .ok (.invokevirtual 52, 3) := by decide +kernel
theorem dX3_write_57 : decode cX3_write 57 = .ok (.i2l, 1) := by decide +kernel
theorem dX3_write_58 : decode cX3_write 58 = .ok (.lreturn, 1) := by decide +kernel
theorem dX3_write_59 : decode cX3_write 59 = .ok (.aload 5, 2) := by decide +kernel
theorem dX3_write_61 : decode cX3_write 61 = .ok (.iload_n 2, 1) := by decide +kernel
theorem dX3_write_62 : decode cX3_write 62 = .ok (.invokevirtual 189, 3) := by decide +kernel
theorem dX3_write_65 : decode cX3_write 65 = .ok (.lstore 6, 2) := by decide +kernel
theorem dX3_write_67 : decode cX3_write 67 = .ok (.aload 5, 2) := by decide +kernel
theorem dX3_write_69 : decode cX3_write 69 = .ok (.iload_n 2, 1) := by decide +kernel
theorem dX3_write_70 : decode cX3_write 70 = .ok (.lload_n 3, 1) := by decide +kernel
theorem dX3_write_71 : decode cX3_write 71 = .ok (.invokevirtual 192, 3) := by decide +kernel
theorem dX3_write_74 : decode cX3_write 74 = .ok (.lload 6, 2) := by decide +kernel
theorem dX3_write_76 : decode cX3_write 76 = .ok (.lreturn, 1) := by decide +kernel
theorem dX3_copy_0 : decode cX3_copy 0 = .ok (.aload_n 0, 1) := by decide +kernel
theorem dX3_copy_1 : decode cX3_copy 1 = .ok (.iload_n 1, 1) := by decide +kernel
theorem dX3_copy_2 : decode cX3_copy 2 = .ok (.invokevirtual 175, 3) := by decide +kernel
theorem dX3_copy_5 : decode cX3_copy 5 = .ok (.astore 6, 2) := by decide +kernel
theorem dX3_copy_7 : decode cX3_copy 7 = .ok (.aload_n 0, 1) := by decide +kernel
theorem dX3_copy_8 : decode cX3_copy 8 = .ok (.iload_n 3, 1) := by decide +kernel
theorem dX3_copy_9 : decode cX3_copy 9 = .ok (.invokevirtual 175, 3) := by decide +kernel
theorem dX3_copy_12 : decode cX3_copy 12 = .ok (.astore 7, 2) := by decide +kernel
theorem dX3_copy_14 : decode cX3_copy 14 = .ok (.aload 6, 2) := by decide +kernel
theorem dX3_copy_16 : decode cX3_copy 16 = .ok (.ifnull 8, 3) := by decide +kernel
theorem dX3_copy_19 : decode cX3_copy 19 = .ok (.aload 7, 2) := by decide +kernel
theorem dX3_copy_21 : decode cX3_copy 21 = .ok (.ifnonnull 10, 3) := by decide +kernel
theorem dX3_copy_24 : decode cX3_copy 24 = .ok (.aload_n 0, 1) := by decide +kernel
theorem dX3_copy_25 : decode cX3_copy 25 = .ok (.ldc 51, 2) := by decide +kernel
theorem dX3_copy_27 : decode cX3_copy 27 = .ok (.invokevirtual 52, 3) := by decide +kernel
theorem dX3_copy_30 : decode cX3_copy 30 = .ok (.ireturn, 1) := by decide +kernel
theorem dX3_copy_31 : decode cX3_copy 31 = .ok (.aload 6, 2) := by decide +kernel
theorem dX3_copy_33 : decode cX3_copy 33 = .ok (.invokevirtual 185, 3) := by decide +kernel
theorem dX3_copy_36 : decode cX3_copy 36 = .ok (.ifCond .ne 11, 3) := by decide +kernel
theorem dX3_copy_39 : decode cX3_copy 39 = .ok (.aload 7, 2) := by decide +kernel
theorem dX3_copy_41 : decode cX3_copy 41 = .ok (.invokevirtual 185, 3) := by decide +kernel
theorem dX3_copy_44 : decode cX3_copy 44 = .ok (.ifCond .eq 10, 3) := by decide +kernel
theorem dX3_copy_47 : decode cX3_copy 47 = .ok (.aload_n 0, 1) := by decide +kernel
theorem dX3_copy_48 : decode cX3_copy 48 = .ok (.ldc 188, 2) := by decide +kernel
theorem dX3_copy_50 : decode cX3_copy 50 = .ok (.invokevirtual 52, 3) := by decide +kernel
theorem dX3_copy_53 : decode cX3_copy 53 = .ok (.ireturn, 1) := by decide +kernel
theorem dX3_copy_54 : decode cX3_copy 54 = .ok (.aload 6, 2) := by decide +kernel
theorem dX3_copy_56 : decode cX3_copy 56 = .ok (.getfield 195, 3) := by decide +kernel
theorem dX3_copy_59 : decode cX3_copy 59 = .ok (.aload 7, 2) := by decide +kernel
theorem dX3_copy_61 : decode cX3_copy 61 = .ok (.getfield 195, 3) := by decide +kernel
theorem dX3_copy_64 : decode cX3_copy 64 = .ok (.if_icmp .eq 10, 3) := by decide +kernel
theorem dX3_copy_67 : decode cX3_copy 67 = .ok (.aload_n 0, 1) := by decide +kernel
theorem dX3_copy_68 : decode cX3_copy 68 = .ok (.ldc 128, 2) := by decide +kernel
theorem dX3_copy_70 : decode cX3_copy 70 = .ok (.invokevirtual 52, 3) := by decide +kernel
theorem dX3_copy_73 : decode cX3_copy 73 = .ok (.ireturn, 1) := by decide +kernel
theorem dX3_copy_74 : decode cX3_copy 74 = .ok (.aload 6, 2) := by decide +kernel
theorem dX3_copy_76 : decode cX3_copy 76 = .ok (.iload_n 2, 1) := by decide +kernel
theorem dX3_copy_77 : decode cX3_copy 77 = .ok (.iload 5, 2) := by decide +kernel
theorem dX3_copy_79 : decode cX3_copy 79 = .ok (.invokevirtual 198, 3) := by decide +kernel
theorem dX3_copy_82 : decode cX3_copy 82 = .ok (.ifCond .ne 15, 3) := by decide +kernel
theorem dX3_copy_85 : decode cX3_copy 85 = .ok (.aload 7, 2) := by decide +kernel
theorem dX3_copy_87 : decode cX3_copy 87 = .ok (.iload 4, 2) := by decide +kernel
theorem dX3_copy_89 : decode cX3_copy 89 = .ok (.iload 5, 2) := by decide +kernel
theorem dX3_copy_91 : decode cX3_copy 91 = .ok (.invokevirtual 198, 3) := by decide +kernel
theorem dX3_copy_94 : decode cX3_copy 94 = .ok (.ifCond .eq 10, 3) := by decide +kernel
theorem dX3_copy_97 : decode cX3_copy 97 = .ok (.aload_n 0, 1) := by decide +kernel
theorem dX3_copy_98 : decode cX3_copy 98 = .ok (.ldc 51, 2) := by decide +kernel
theorem dX3_copy_100 : decode cX3_copy 100 = .ok (.invokevirtual 52, 3) := by decide +kernel
theorem dX3_copy_103 : decode cX3_copy 103 = .ok (.ireturn, 1) := by decide +kernel
theorem dX3_copy_104 : decode cX3_copy 104 = .ok (.aload 6, 2) := by decide +kernel
theorem dX3_copy_106 : decode cX3_copy 106 = .ok (.getfield 200, 3) := by decide +kernel
theorem dX3_copy_109 : decode cX3_copy 109 = .ok (.iload_n 2, 1) := by decide +kernel
theorem dX3_copy_110 : decode cX3_copy 110 = .ok (.aload 7, 2) := by decide +kernel
theorem dX3_copy_112 : decode cX3_copy 112 = .ok (.getfield 200, 3) := by decide +kernel
theorem dX3_copy_115 : decode cX3_copy 115 = .ok (.iload 4, 2) := by decide +kernel
theorem dX3_copy_117 : decode cX3_copy 117 = .ok (.iload 5, 2) := by decide +kernel
theorem dX3_copy_119 : decode cX3_copy 119 = .ok (.invokestatic 204, 3) := by decide +kernel
theorem dX3_copy_122 : decode cX3_copy 122 = .ok (.iload 5, 2) := by decide +kernel
theorem dX3_copy_124 : decode cX3_copy 124 = .ok (.ireturn, 1) := by decide +kernel
theorem dX3_lays_0 : decode cX3_lays 0 = .ok (.aload_n 0, 1) := by decide +kernel
theorem dX3_lays_1 : decode cX3_lays 1 = .ok (.iload_n 1, 1) := by decide +kernel
theorem dX3_lays_2 : decode cX3_lays 2 = .ok (.invokevirtual 175, 3) := by decide +kernel
theorem dX3_lays_5 : decode cX3_lays 5 = .ok (.astore_n 2, 1) := by decide +kernel
theorem dX3_lays_6 : decode cX3_lays 6 = .ok (.aload_n 2, 1) := by decide +kernel
theorem dX3_lays_7 : decode cX3_lays 7 = .ok (.ifnonnull 10, 3) := by decide +kernel
theorem dX3_lays_10 : decode cX3_lays 10 = .ok (.aload_n 0, 1) := by decide +kernel
theorem dX3_lays_11 : decode cX3_lays 11 = .ok (.ldc 51, 2) := by decide +kernel
theorem dX3_lays_13 : decode cX3_lays 13 = .ok (.invokevirtual 52, 3) := by decide +kernel
theorem dX3_lays_16 : decode cX3_lays 16 = .ok (.ireturn, 1) := by decide +kernel
theorem dX3_lays_17 : decode cX3_lays 17 = .ok (.aload_n 2, 1) := by decide +kernel
theorem dX3_lays_18 : decode cX3_lays 18 = .ok (.invokevirtual 185, 3) := by decide +kernel
theorem dX3_lays_21 : decode cX3_lays 21 = .ok (.ifCond .eq 10, 3) := by decide +kernel
theorem dX3_lays_24 : decode cX3_lays 24 = .ok (.aload_n 0, 1) := by decide +kernel
theorem dX3_lays_25 : decode cX3_lays 25 = .ok (.ldc 188, 2) := by decide +kernel
theorem dX3_lays_27 : decode cX3_lays 27 = .ok (.invokevirtual 52, 3) := by decide +kernel
theorem dX3_lays_30 : decode cX3_lays 30 = .ok (.ireturn, 1) := by decide +kernel
theorem dX3_lays_31 : decode cX3_lays 31 = .ok (.iconst 0, 1) := by decide +kernel
theorem dX3_lays_32 : decode cX3_lays 32 = .ok (.istore_n 3, 1) := by decide +kernel
theorem dX3_lays_33 : decode cX3_lays 33 = .ok (.iconst 0, 1) := by decide +kernel
theorem dX3_lays_34 : decode cX3_lays 34 = .ok (.istore 4, 2) := by decide +kernel
theorem dX3_lays_36 : decode cX3_lays 36 = .ok (.iload 4, 2) := by decide +kernel
theorem dX3_lays_38 : decode cX3_lays 38 = .ok (.aload_n 2, 1) := by decide +kernel
theorem dX3_lays_39 : decode cX3_lays 39 = .ok (.getfield 184, 3) := by decide +kernel
theorem dX3_lays_42 : decode cX3_lays 42 = .ok (.if_icmp .ge 61, 3) := by decide +kernel
theorem dX3_lays_45 : decode cX3_lays 45 = .ok (.iload 4, 2) := by decide +kernel
theorem dX3_lays_47 : decode cX3_lays 47 = .ok (.aload_n 0, 1) := by decide +kernel
theorem dX3_lays_48 : decode cX3_lays 48 = .ok (.getfield 10, 3) := by decide +kernel
theorem dX3_lays_51 : decode cX3_lays 51 = .ok (.getfield 148, 3) := by decide +kernel
theorem dX3_lays_54 : decode cX3_lays 54 = .ok (.if_icmp .ge 49, 3) := by decide +kernel
theorem dX3_lays_57 : decode cX3_lays 57 = .ok (.aload_n 2, 1) := by decide +kernel
theorem dX3_lays_58 : decode cX3_lays 58 = .ok (.iload 4, 2) := by decide +kernel
theorem dX3_lays_60 : decode cX3_lays 60 = .ok (.invokevirtual 189, 3) := by decide +kernel
theorem dX3_lays_63 : decode cX3_lays 63 = .ok (.lstore 5, 2) := by decide +kernel
theorem dX3_lays_65 : decode cX3_lays 65 = .ok (.lload 5, 2) := by decide +kernel
theorem dX3_lays_67 : decode cX3_lays 67 = .ok (.lconst 0, 1) := by decide +kernel
theorem dX3_lays_68 : decode cX3_lays 68 = .ok (.lcmp, 1) := by decide +kernel
theorem dX3_lays_69 : decode cX3_lays 69 = .ok (.ifCond .lt 28, 3) := by decide +kernel
theorem dX3_lays_72 : decode cX3_lays 72 = .ok (.lload 5, 2) := by decide +kernel
theorem dX3_lays_74 : decode cX3_lays 74 = .ok (.ldc2_w 210, 3) := by decide +kernel
theorem dX3_lays_77 : decode cX3_lays 77 = .ok (.lcmp, 1) := by decide +kernel
theorem dX3_lays_78 : decode cX3_lays 78 = .ok (.ifCond .gt 19, 3) := by decide +kernel
theorem dX3_lays_81 : decode cX3_lays 81 = .ok (.aload_n 0, 1) := by decide +kernel
theorem dX3_lays_82 : decode cX3_lays 82 = .ok (.getfield 10, 3) := by decide +kernel
theorem dX3_lays_85 : decode cX3_lays 85 = .ok (.iload 4, 2) := by decide +kernel
theorem dX3_lays_87 : decode cX3_lays 87 = .ok (.iconst 3, 1) := by decide +kernel
theorem dX3_lays_88 : decode cX3_lays 88 = .ok (.lload 5, 2) := by decide +kernel
theorem dX3_lays_90 : decode cX3_lays 90 = .ok (.l2i, 1) := by decide +kernel
theorem dX3_lays_91 : decode cX3_lays 91 = .ok (.invokevirtual 117, 3) := by decide +kernel
theorem dX3_lays_94 : decode cX3_lays 94 = .ok (.iinc 3 1, 3) := by decide +kernel
theorem dX3_lays_97 : decode cX3_lays 97 = .ok (.iinc 4 1, 3) := by decide +kernel
theorem dX3_lays_100 : decode cX3_lays 100 = .ok (.goto (-64), 3) := by decide +kernel
theorem dX3_lays_103 : decode cX3_lays 103 = .ok (.iload_n 3, 1) := by decide +kernel
theorem dX3_lays_104 : decode cX3_lays 104 = .ok (.ireturn, 1) := by decide +kernel
theorem dX3_book_0 : decode cX3_book 0 = .ok (.aload_n 0, 1) := by decide +kernel
theorem dX3_book_1 : decode cX3_book 1 = .ok (.iload_n 1, 1) := by decide +kernel
theorem dX3_book_2 : decode cX3_book 2 = .ok (.invokevirtual 175, 3) := by decide +kernel
theorem dX3_book_5 : decode cX3_book 5 = .ok (.astore_n 3, 1) := by decide +kernel
theorem dX3_book_6 : decode cX3_book 6 = .ok (.aload_n 3, 1) := by decide +kernel
theorem dX3_book_7 : decode cX3_book 7 = .ok (.ifnonnull 10, 3) := by decide +kernel
theorem dX3_book_10 : decode cX3_book 10 = .ok (.aload_n 0, 1) := by decide +kernel
theorem dX3_book_11 : decode cX3_book 11 = .ok (.ldc 51, 2) := by decide +kernel
theorem dX3_book_13 : decode cX3_book 13 = .ok (.invokevirtual 52, 3) := by decide +kernel
theorem dX3_book_16 : decode cX3_book 16 = .ok (.ireturn, 1) := by decide +kernel
theorem dX3_book_17 : decode cX3_book 17 = .ok (.aload_n 3, 1) := by decide +kernel
theorem dX3_book_18 : decode cX3_book 18 = .ok (.invokevirtual 185, 3) := by decide +kernel
theorem dX3_book_21 : decode cX3_book 21 = .ok (.ifCond .eq 10, 3) := by decide +kernel
theorem dX3_book_24 : decode cX3_book 24 = .ok (.aload_n 0, 1) := by decide +kernel
theorem dX3_book_25 : decode cX3_book 25 = .ok (.ldc 188, 2) := by decide +kernel
theorem dX3_book_27 : decode cX3_book 27 = .ok (.invokevirtual 52, 3) := by decide +kernel
theorem dX3_book_30 : decode cX3_book 30 = .ok (.ireturn, 1) := by decide +kernel
theorem dX3_book_31 : decode cX3_book 31 = .ok (.aload_n 0, 1) := by decide +kernel
theorem dX3_book_32 : decode cX3_book 32 = .ok (.getfield 10, 3) := by decide +kernel
theorem dX3_book_35 : decode cX3_book 35 = .ok (.iload_n 2, 1) := by decide +kernel
theorem dX3_book_36 : decode cX3_book 36 = .ok (.invokevirtual 95, 3) := by decide +kernel
theorem dX3_book_39 : decode cX3_book 39 = .ok (.ifCond .eq 10, 3) := by decide +kernel
theorem dX3_book_42 : decode cX3_book 42 = .ok (.aload_n 0, 1) := by decide +kernel
theorem dX3_book_43 : decode cX3_book 43 = .ok (.ldc 51, 2) := by decide +kernel
theorem dX3_book_45 : decode cX3_book 45 = .ok (.invokevirtual 52, 3) := by decide +kernel
theorem dX3_book_48 : decode cX3_book 48 = .ok (.ireturn, 1) := by decide +kernel
theorem dX3_book_49 : decode cX3_book 49 = .ok (.aload_n 0, 1) := by decide +kernel
theorem dX3_book_50 : decode cX3_book 50 = .ok (.getfield 16, 3) := by decide +kernel
theorem dX3_book_53 : decode cX3_book 53 = .ok (.aload_n 0, 1) := by decide +kernel
theorem dX3_book_54 : decode cX3_book 54 = .ok (.getfield 10, 3) := by decide +kernel
theorem dX3_book_57 : decode cX3_book 57 = .ok (.invokevirtual 135, 3) := by decide +kernel
theorem dX3_book_60 : decode cX3_book 60 = .ok (.iconst 0, 1) := by decide +kernel
theorem dX3_book_61 : decode cX3_book 61 = .ok (.istore 4, 2) := by decide +kernel
theorem dX3_book_63 : decode cX3_book 63 = .ok (.iload 4, 2) := by decide +kernel
theorem dX3_book_65 : decode cX3_book 65 = .ok (.aload_n 3, 1) := by decide +kernel
theorem dX3_book_66 : decode cX3_book 66 = .ok (.getfield 184, 3) := by decide +kernel
theorem dX3_book_69 : decode cX3_book 69 = .ok (.if_icmp .ge 32, 3) := by decide +kernel
theorem dX3_book_72 : decode cX3_book 72 = .ok (.aload_n 3, 1) := by decide +kernel
theorem dX3_book_73 : decode cX3_book 73 = .ok (.iload 4, 2) := by decide +kernel
theorem dX3_book_75 : decode cX3_book 75 = .ok (.aload_n 0, 1) := by decide +kernel
theorem dX3_book_76 : decode cX3_book 76 = .ok (.getfield 16, 3) := by decide +kernel
theorem dX3_book_79 : decode cX3_book 79 = .ok (.iload_n 2, 1) := by decide +kernel
theorem dX3_book_80 : decode cX3_book 80 = .ok (.invokevirtual 212, 3) := by decide +kernel
theorem dX3_book_83 : decode cX3_book 83 = .ok (.i2l, 1) := by decide +kernel
theorem dX3_book_84 : decode cX3_book 84 = .ok (.invokevirtual 192, 3) := by decide +kernel
theorem dX3_book_87 : decode cX3_book 87 = .ok (.aload_n 0, 1) := by decide +kernel
theorem dX3_book_88 : decode cX3_book 88 = .ok (.getfield 16, 3) := by decide +kernel
theorem dX3_book_91 : decode cX3_book 91 = .ok (.iconst 1, 1) := by decide +kernel
theorem dX3_book_92 : decode cX3_book 92 = .ok (.invokevirtual 131, 3) := by decide +kernel
theorem dX3_book_95 : decode cX3_book 95 = .ok (.iinc 4 1, 3) := by decide +kernel
theorem dX3_book_98 : decode cX3_book 98 = .ok (.goto (-35), 3) := by decide +kernel
theorem dX3_book_101 : decode cX3_book 101 = .ok (.aload_n 3, 1) := by decide +kernel
theorem dX3_book_102 : decode cX3_book 102 = .ok (.getfield 184, 3) := by decide +kernel
theorem dX3_book_105 : decode cX3_book 105 = .ok (.ireturn, 1) := by decide +kernel
theorem dX3_read_0 : decode cX3_read 0 = .ok (.aload_n 0, 1) := by decide +kernel
theorem dX3_read_1 : decode cX3_read 1 = .ok (.iload_n 1, 1) := by decide +kernel
theorem dX3_read_2 : decode cX3_read 2 = .ok (.invokevirtual 175, 3) := by decide +kernel
theorem dX3_read_5 : decode cX3_read 5 = .ok (.astore_n 3, 1) := by decide +kernel
theorem dX3_read_6 : decode cX3_read 6 = .ok (.aload_n 3, 1) := by decide +kernel
theorem dX3_read_7 : decode cX3_read 7 = .ok (.ifnonnull 10, 3) := by decide +kernel
theorem dX3_read_10 : decode cX3_read 10 = .ok (.aload_n 0, 1) := by decide +kernel
theorem dX3_read_11 : decode cX3_read 11 = .ok (.ldc 51, 2) := by decide +kernel
theorem dX3_read_13 : decode cX3_read 13 = .ok (.invokevirtual 52, 3) := by decide +kernel
theorem dX3_read_16 : decode cX3_read 16 = .ok (.ireturn, 1) := by decide +kernel
theorem dX3_read_17 : decode cX3_read 17 = .ok (.aload_n 3, 1) := by decide +kernel
theorem dX3_read_18 : decode cX3_read 18 = .ok (.invokevirtual 185, 3) := by decide +kernel
theorem dX3_read_21 : decode cX3_read 21 = .ok (.ifCond .eq 10, 3) := by decide +kernel
theorem dX3_read_24 : decode cX3_read 24 = .ok (.aload_n 0, 1) := by decide +kernel
theorem dX3_read_25 : decode cX3_read 25 = .ok (.ldc 188, 2) := by decide +kernel
theorem dX3_read_27 : decode cX3_read 27 = .ok (.invokevirtual 52, 3) := by decide +kernel
theorem dX3_read_30 : decode cX3_read 30 = .ok (.ireturn, 1) := by decide +kernel
theorem dX3_read_31 : decode cX3_read 31 = .ok (.aload_n 0, 1) := by decide +kernel
theorem dX3_read_32 : decode cX3_read 32 = .ok (.getfield 10, 3) := by decide +kernel
theorem dX3_read_35 : decode cX3_read 35 = .ok (.iload_n 2, 1) := by decide +kernel
theorem dX3_read_36 : decode cX3_read 36 = .ok (.invokevirtual 95, 3) := by decide +kernel
theorem dX3_read_39 : decode cX3_read 39 = .ok (.ifCond .eq 10, 3) := by decide +kernel
theorem dX3_read_42 : decode cX3_read 42 = .ok (.aload_n 0, 1) := by decide +kernel
theorem dX3_read_43 : decode cX3_read 43 = .ok (.ldc 51, 2) := by decide +kernel
theorem dX3_read_45 : decode cX3_read 45 = .ok (.invokevirtual 52, 3) := by decide +kernel
theorem dX3_read_48 : decode cX3_read 48 = .ok (.ireturn, 1) := by decide +kernel
theorem dX3_read_49 : decode cX3_read 49 = .ok (.iconst 0, 1) := by decide +kernel
theorem dX3_read_50 : decode cX3_read 50 = .ok (.istore 4, 2) := by decide +kernel
theorem dX3_read_52 : decode cX3_read 52 = .ok (.iconst 0, 1) := by decide +kernel
theorem dX3_read_53 : decode cX3_read 53 = .ok (.istore 5, 2) := by decide +kernel
theorem dX3_read_55 : decode cX3_read 55 = .ok (.iload 5, 2) := by decide +kernel
theorem dX3_read_57 : decode cX3_read 57 = .ok (.iconst 5, 1) := by decide +kernel
theorem dX3_read_58 : decode cX3_read 58 = .ok (.if_icmp .gt 55, 3) := by decide +kernel
theorem dX3_read_61 : decode cX3_read 61 = .ok (.iconst 0, 1) := by decide +kernel
theorem dX3_read_62 : decode cX3_read 62 = .ok (.istore 6, 2) := by decide +kernel
theorem dX3_read_64 : decode cX3_read 64 = .ok (.iload 6, 2) := by decide +kernel
theorem dX3_read_66 : decode cX3_read 66 = .ok (.iconst 4, 1) := by decide +kernel
theorem dX3_read_67 : decode cX3_read 67 = .ok (.if_icmp .gt 40, 3) := by decide +kernel
theorem dX3_read_70 : decode cX3_read 70 = .ok (.aload_n 0, 1) := by decide +kernel
theorem dX3_read_71 : decode cX3_read 71 = .ok (.iload_n 2, 1) := by decide +kernel
theorem dX3_read_72 : decode cX3_read 72 = .ok (.iconst 0, 1) := by decide +kernel
theorem dX3_read_73 : decode cX3_read 73 = .ok (.iload 5, 2) := by decide +kernel
theorem dX3_read_75 : decode cX3_read 75 = .ok (.invokevirtual 151, 3) := by decide +kernel
theorem dX3_read_78 : decode cX3_read 78 = .ok (.aload_n 0, 1) := by decide +kernel
theorem dX3_read_79 : decode cX3_read 79 = .ok (.getfield 16, 3) := by decide +kernel
theorem dX3_read_82 : decode cX3_read 82 = .ok (.iload_n 2, 1) := by decide +kernel
theorem dX3_read_83 : decode cX3_read 83 = .ok (.iconst 5, 1) := by decide +kernel
theorem dX3_read_84 : decode cX3_read 84 = .ok (.iload 6, 2) := by decide +kernel
theorem dX3_read_86 : decode cX3_read 86 = .ok (.invokevirtual 117, 3) := by decide +kernel
theorem dX3_read_89 : decode cX3_read 89 = .ok (.aload_n 0, 1) := by decide +kernel
theorem dX3_read_90 : decode cX3_read 90 = .ok (.aload_n 3, 1) := by decide +kernel
theorem dX3_read_91 : decode cX3_read 91 = .ok (.iload_n 2, 1) := by decide +kernel
theorem dX3_read_92 : decode cX3_read 92 = .ok (.invokevirtual 215, 3) := by decide +kernel
theorem dX3_read_95 : decode cX3_read 95 = .ok (.ifCond .eq 6, 3) := by decide +kernel
theorem dX3_read_98 : decode cX3_read 98 = .ok (.iinc 4 1, 3) := by decide +kernel
theorem dX3_read_101 : decode cX3_read 101 = .ok (.iinc 6 1, 3) := by decide +kernel
theorem dX3_read_104 : decode cX3_read 104 = .ok (.goto (-40), 3) := by decide +kernel
theorem dX3_read_107 : decode cX3_read 107 = .ok (.iinc 5 1, 3) := by decide +kernel
theorem dX3_read_110 : decode cX3_read 110 = .ok (.goto (-55), 3) := by decide +kernel
theorem dX3_read_113 : decode cX3_read 113 = .ok (.iload 4, 2) := by decide +kernel
theorem dX3_read_115 : decode cX3_read 115 = .ok (.ireturn, 1) := by decide +kernel
theorem dX3_image_0 : decode cX3_image 0 = .ok (.aload_n 0, 1) := by decide +kernel
theorem dX3_image_1 : decode cX3_image 1 = .ok (.getfield 19, 3) := by decide +kernel
theorem dX3_image_4 : decode cX3_image 4 = .ok (.aload_n 0, 1) := by decide +kernel
theorem dX3_image_5 : decode cX3_image 5 = .ok (.getfield 10, 3) := by decide +kernel
theorem dX3_image_8 : decode cX3_image 8 = .ok (.invokevirtual 135, 3) := by decide +kernel
theorem dX3_image_11 : decode cX3_image 11 = .ok (.aload_n 0, 1) := by decide +kernel
theorem dX3_image_12 : decode cX3_image 12 = .ok (.iconst 1, 1) := by decide +kernel
theorem dX3_image_13 : decode cX3_image 13 = .ok (.putfield 22, 3) := by decide +kernel
theorem dX3_image_16 : decode cX3_image 16 = .ok (.iconst 1, 1) := by decide +kernel
theorem dX3_image_17 : decode cX3_image 17 = .ok (.ireturn, 1) := by decide +kernel
theorem dX3_undo_0 : decode cX3_undo 0 = .ok (.aload_n 0, 1) := by decide +kernel
theorem dX3_undo_1 : decode cX3_undo 1 = .ok (.getfield 22, 3) := by decide +kernel
theorem dX3_undo_4 : decode cX3_undo 4 = .ok (.ifCond .ne 10, 3) := by decide +kernel
theorem dX3_undo_7 : decode cX3_undo 7 = .ok (.aload_n 0, 1) := by decide +kernel
theorem dX3_undo_8 : decode cX3_undo 8 = .ok (.ldc 154, 2) := by decide +kernel
theorem dX3_undo_10 : decode cX3_undo 10 = .ok (.invokevirtual 52, 3) := by decide +kernel
theorem dX3_undo_13 : decode cX3_undo 13 = .ok (.ireturn, 1) := by decide +kernel
theorem dX3_undo_14 : decode cX3_undo 14 = .ok (.aload_n 0, 1) := by decide +kernel
theorem dX3_undo_15 : decode cX3_undo 15 = .ok (.getfield 10, 3) := by decide +kernel
theorem dX3_undo_18 : decode cX3_undo 18 = .ok (.aload_n 0, 1) := by decide +kernel
theorem dX3_undo_19 : decode cX3_undo 19 = .ok (.getfield 19, 3) := by decide +kernel
theorem dX3_undo_22 : decode cX3_undo 22 = .ok (.invokevirtual 135, 3) := by decide +kernel
theorem dX3_undo_25 : decode cX3_undo 25 = .ok (.aload_n 0, 1) := by decide +kernel
theorem dX3_undo_26 : decode cX3_undo 26 = .ok (.getfield 10, 3) := by decide +kernel
theorem dX3_undo_29 : decode cX3_undo 29 = .ok (.getfield 148, 3) := by decide +kernel
theorem dX3_undo_32 : decode cX3_undo 32 = .ok (.ireturn, 1) := by decide +kernel
theorem dX3_tear_0 : decode cX3_tear 0 = .ok (.aload_n 0, 1) := by decide +kernel
theorem dX3_tear_1 : decode cX3_tear 1 = .ok (.getfield 22, 3) := by decide +kernel
theorem dX3_tear_4 : decode cX3_tear 4 = .ok (.ifCond .eq 7, 3) := by decide +kernel
theorem dX3_tear_7 : decode cX3_tear 7 = .ok (.iconst 1, 1) := by decide +kernel
theorem dX3_tear_8 : decode cX3_tear 8 = .ok (.goto 4, 3) := by decide +kernel
theorem dX3_tear_11 : decode cX3_tear 11 = .ok (.iconst 0, 1) := by decide +kernel
theorem dX3_tear_12 : decode cX3_tear 12 = .ok (.istore_n 1, 1) := by decide +kernel
theorem dX3_tear_13 : decode cX3_tear 13 = .ok (.aload_n 0, 1) := by decide +kernel
theorem dX3_tear_14 : decode cX3_tear 14 = .ok (.iconst 0, 1) := by decide +kernel
theorem dX3_tear_15 : decode cX3_tear 15 = .ok (.putfield 22, 3) := by decide +kernel
theorem dX3_tear_18 : decode cX3_tear 18 = .ok (.iload_n 1, 1) := by decide +kernel
theorem dX3_tear_19 : decode cX3_tear 19 = .ok (.ireturn, 1) := by decide +kernel
theorem dX3_count_0 : decode cX3_count 0 = .ok (.iload_n 1, 1) := by decide +kernel
theorem dX3_count_1 : decode cX3_count 1 = .ok (.tableswitch 65 0 3 #[31, 39, 47, 56], 31) := by decide +kernel
theorem dX3_count_32 : decode cX3_count 32 = .ok (.aload_n 0, 1) := by decide +kernel
theorem dX3_count_33 : decode cX3_count 33 = .ok (.getfield 10, 3) := by decide +kernel
theorem dX3_count_36 : decode cX3_count 36 = .ok (.getfield 148, 3) := by decide +kernel
theorem dX3_count_39 : decode cX3_count 39 = .ok (.ireturn, 1) := by decide +kernel
theorem dX3_count_40 : decode cX3_count 40 = .ok (.aload_n 0, 1) := by decide +kernel
theorem dX3_count_41 : decode cX3_count 41 = .ok (.getfield 29, 3) := by decide +kernel
theorem dX3_count_44 : decode cX3_count 44 = .ok (.getfield 165, 3) := by decide +kernel
theorem dX3_count_47 : decode cX3_count 47 = .ok (.ireturn, 1) := by decide +kernel
theorem dX3_count_48 : decode cX3_count 48 = .ok (.aload_n 0, 1) := by decide +kernel
theorem dX3_count_49 : decode cX3_count 49 = .ok (.getfield 10, 3) := by decide +kernel
theorem dX3_count_52 : decode cX3_count 52 = .ok (.iconst 4, 1) := by decide +kernel
theorem dX3_count_53 : decode cX3_count 53 = .ok (.invokevirtual 84, 3) := by decide +kernel
theorem dX3_count_56 : decode cX3_count 56 = .ok (.ireturn, 1) := by decide +kernel
theorem dX3_count_57 : decode cX3_count 57 = .ok (.aload_n 0, 1) := by decide +kernel
theorem dX3_count_58 : decode cX3_count 58 = .ok (.getfield 10, 3) := by decide +kernel
theorem dX3_count_61 : decode cX3_count 61 = .ok (.iconst 3, 1) := by decide +kernel
theorem dX3_count_62 : decode cX3_count 62 = .ok (.invokevirtual 84, 3) := by decide +kernel
theorem dX3_count_65 : decode cX3_count 65 = .ok (.ireturn, 1) := by decide +kernel
theorem dX3_count_66 : decode cX3_count 66 = .ok (.aload_n 0, 1) := by decide +kernel
theorem dX3_count_67 : decode cX3_count 67 = .ok (.ldc 51, 2) := by decide +kernel
theorem dX3_count_69 : decode cX3_count 69 = .ok (.invokevirtual 52, 3) := by decide +kernel
theorem dX3_count_72 : decode cX3_count 72 = .ok (.ireturn, 1) := by decide +kernel
theorem dX3_status_0 : decode cX3_status 0 = .ok (.iload_n 1, 1) := by decide +kernel
theorem dX3_status_1 : decode cX3_status 1 = .ok (.iconst (-1), 1) := by decide +kernel
theorem dX3_status_2 : decode cX3_status 2 = .ok (.bipush 6, 2) := by decide +kernel
theorem dX3_status_4 : decode cX3_status 4 = .ok (.invokestatic 47, 3) := by decide +kernel
theorem dX3_status_7 : decode cX3_status 7 = .ok (.ifCond .eq 10, 3) := by decide +kernel
theorem dX3_status_10 : decode cX3_status 10 = .ok (.aload_n 0, 1) := by decide +kernel
theorem dX3_status_11 : decode cX3_status 11 = .ok (.ldc 51, 2) := by decide +kernel
theorem dX3_status_13 : decode cX3_status 13 = .ok (.invokevirtual 52, 3) := by decide +kernel
theorem dX3_status_16 : decode cX3_status 16 = .ok (.ireturn, 1) := by decide +kernel
theorem dX3_status_17 : decode cX3_status 17 = .ok (.iload_n 1, 1) := by decide +kernel
theorem dX3_status_18 : decode cX3_status 18 = .ok (.ifCond .lt 10, 3) := by decide +kernel
theorem dX3_status_21 : decode cX3_status 21 = .ok (.aload_n 0, 1) := by decide +kernel
theorem dX3_status_22 : decode cX3_status 22 = .ok (.getfield 40, 3) := by decide +kernel
theorem dX3_status_25 : decode cX3_status 25 = .ok (.iload_n 1, 1) := by decide +kernel
theorem dX3_status_26 : decode cX3_status 26 = .ok (.iaload, 1) := by decide +kernel
theorem dX3_status_27 : decode cX3_status 27 = .ok (.ireturn, 1) := by decide +kernel
theorem dX3_status_28 : decode cX3_status 28 = .ok (.iconst 0, 1) := by decide +kernel
theorem dX3_status_29 : decode cX3_status 29 = .ok (.istore_n 2, 1) := by decide +kernel
theorem dX3_status_30 : decode cX3_status 30 = .ok (.iconst 0, 1) := by decide +kernel
theorem dX3_status_31 : decode cX3_status 31 = .ok (.istore_n 3, 1) := by decide +kernel
theorem dX3_status_32 : decode cX3_status 32 = .ok (.iload_n 3, 1) := by decide +kernel
theorem dX3_status_33 : decode cX3_status 33 = .ok (.bipush 7, 2) := by decide +kernel
theorem dX3_status_35 : decode cX3_status 35 = .ok (.if_icmp .ge 18, 3) := by decide +kernel
theorem dX3_status_38 : decode cX3_status 38 = .ok (.iload_n 2, 1) := by decide +kernel
theorem dX3_status_39 : decode cX3_status 39 = .ok (.aload_n 0, 1) := by decide +kernel
theorem dX3_status_40 : decode cX3_status 40 = .ok (.getfield 40, 3) := by decide +kernel
theorem dX3_status_43 : decode cX3_status 43 = .ok (.iload_n 3, 1) := by decide +kernel
theorem dX3_status_44 : decode cX3_status 44 = .ok (.iaload, 1) := by decide +kernel
theorem dX3_status_45 : decode cX3_status 45 = .ok (.iadd, 1) := by decide +kernel
theorem dX3_status_46 : decode cX3_status 46 = .ok (.istore_n 2, 1) := by decide +kernel
theorem dX3_status_47 : decode cX3_status 47 = .ok (.iinc 3 1, 3) := by decide +kernel
theorem dX3_status_50 : decode cX3_status 50 = .ok (.goto (-18), 3) := by decide +kernel
theorem dX3_status_53 : decode cX3_status 53 = .ok (.iload_n 2, 1) := by decide +kernel
theorem dX3_status_54 : decode cX3_status 54 = .ok (.ireturn, 1) := by decide +kernel
theorem dX3_finding_0 : decode cX3_finding 0 = .ok (.ldc 51, 2) := by decide +kernel
theorem dX3_finding_2 : decode cX3_finding 2 = .ok (.iload_n 1, 1) := by decide +kernel
theorem dX3_finding_3 : decode cX3_finding 3 = .ok (.isub, 1) := by decide +kernel
theorem dX3_finding_4 : decode cX3_finding 4 = .ok (.istore_n 2, 1) := by decide +kernel
theorem dX3_finding_5 : decode cX3_finding 5 = .ok (.iload_n 2, 1) := by decide +kernel
theorem dX3_finding_6 : decode cX3_finding 6 = .ok (.ifCond .lt 19, 3) := by decide +kernel
theorem dX3_finding_9 : decode cX3_finding 9 = .ok (.iload_n 2, 1) := by decide +kernel
theorem dX3_finding_10 : decode cX3_finding 10 = .ok (.bipush 7, 2) := by decide +kernel
theorem dX3_finding_12 : decode cX3_finding 12 = .ok (.if_icmp .ge 13, 3) := by decide +kernel
theorem dX3_finding_15 : decode cX3_finding 15 = .ok (.aload_n 0, 1) := by decide +kernel
theorem dX3_finding_16 : decode cX3_finding 16 = .ok (.getfield 40, 3) := by decide +kernel
theorem dX3_finding_19 : decode cX3_finding 19 = .ok (.iload_n 2, 1) := by decide +kernel
theorem dX3_finding_20 : decode cX3_finding 20 = .ok (.dup2, 1) := by decide +kernel
theorem dX3_finding_21 : decode cX3_finding 21 = .ok (.iaload, 1) := by decide +kernel
theorem dX3_finding_22 : decode cX3_finding 22 = .ok (.iconst 1, 1) := by decide +kernel
theorem dX3_finding_23 : decode cX3_finding 23 = .ok (.iadd, 1) := by decide +kernel
theorem dX3_finding_24 : decode cX3_finding 24 = .ok (.iastore, 1) := by decide +kernel
theorem dX3_finding_25 : decode cX3_finding 25 = .ok (.iload_n 1, 1) := by decide +kernel
theorem dX3_finding_26 : decode cX3_finding 26 = .ok (.ireturn, 1) := by decide +kernel
theorem dX3_isOutside_0 : decode cX3_isOutside 0 = .ok (.iload_n 0, 1) := by decide +kernel
theorem dX3_isOutside_1 : decode cX3_isOutside 1 = .ok (.iload_n 1, 1) := by decide +kernel
theorem dX3_isOutside_2 : decode cX3_isOutside 2 = .ok (.if_icmp .lt 8, 3) := by decide +kernel
theorem dX3_isOutside_5 : decode cX3_isOutside 5 = .ok (.iload_n 0, 1) := by decide +kernel
theorem dX3_isOutside_6 : decode cX3_isOutside 6 = .ok (.iload_n 2, 1) := by decide +kernel
theorem dX3_isOutside_7 : decode cX3_isOutside 7 = .ok (.if_icmp .le 7, 3) := by decide +kernel
theorem dX3_isOutside_10 : decode cX3_isOutside 10 = .ok (.iconst 1, 1) := by decide +kernel
theorem dX3_isOutside_11 : decode cX3_isOutside 11 = .ok (.goto 4, 3) := by decide +kernel
theorem dX3_isOutside_14 : decode cX3_isOutside 14 = .ok (.iconst 0, 1) := by decide +kernel
theorem dX3_isOutside_15 : decode cX3_isOutside 15 = .ok (.ireturn, 1) := by decide +kernel
theorem dX3_least_0 : decode cX3_least 0 = .ok (.iload_n 0, 1) := by decide +kernel
theorem dX3_least_1 : decode cX3_least 1 = .ok (.bipush 6, 2) := by decide +kernel
theorem dX3_least_3 : decode cX3_least 3 = .ok (.if_icmp .ne 7, 3) := by decide +kernel
theorem dX3_least_6 : decode cX3_least 6 = .ok (.iconst (-1), 1) := by decide +kernel
theorem dX3_least_7 : decode cX3_least 7 = .ok (.goto 4, 3) := by decide +kernel
theorem dX3_least_10 : decode cX3_least 10 = .ok (.iconst 0, 1) := by decide +kernel
theorem dX3_least_11 : decode cX3_least 11 = .ok (.ireturn, 1) := by decide +kernel
theorem dX3_greatest_0 : decode cX3_greatest 0 = .ok (.iload_n 1, 1) := by decide +kernel
theorem dX3_greatest_1 : decode cX3_greatest 1 = .ok (.tableswitch 71 1 8 #[47, 49, 52, 71, 55, 57, 71, 67], 47) := by decide +kernel
theorem dX3_greatest_48 : decode cX3_greatest 48 = .ok (.iconst 3, 1) := by decide +kernel
theorem dX3_greatest_49 : decode cX3_greatest 49 = .ok (.ireturn, 1) := by decide +kernel
theorem dX3_greatest_50 : decode cX3_greatest 50 = .ok (.bipush 19, 2) := by decide +kernel
theorem dX3_greatest_52 : decode cX3_greatest 52 = .ok (.ireturn, 1) := by decide +kernel
theorem dX3_greatest_53 : decode cX3_greatest 53 = .ok (.bipush 99, 2) := by decide +kernel
theorem dX3_greatest_55 : decode cX3_greatest 55 = .ok (.ireturn, 1) := by decide +kernel
theorem dX3_greatest_56 : decode cX3_greatest 56 = .ok (.iconst 4, 1) := by decide +kernel
theorem dX3_greatest_57 : decode cX3_greatest 57 = .ok (.ireturn, 1) := by decide +kernel
theorem dX3_greatest_58 : decode cX3_greatest 58 = .ok (.aload_n 0, 1) := by decide +kernel
theorem dX3_greatest_59 : decode cX3_greatest 59 = .ok (.getfield 10, 3) := by decide +kernel
theorem dX3_greatest_62 : decode cX3_greatest 62 = .ok (.getfield 148, 3) := by decide +kernel
theorem dX3_greatest_65 : decode cX3_greatest 65 = .ok (.iconst 1, 1) := by decide +kernel
theorem dX3_greatest_66 : decode cX3_greatest 66 = .ok (.isub, 1) := by decide +kernel
theorem dX3_greatest_67 : decode cX3_greatest 67 = .ok (.ireturn, 1) := by decide +kernel
theorem dX3_greatest_68 : decode cX3_greatest 68 = .ok (.sipush 9999, 3) := by decide +kernel
theorem dX3_greatest_71 : decode cX3_greatest 71 = .ok (.ireturn, 1) := by decide +kernel
theorem dX3_greatest_72 : decode cX3_greatest 72 = .ok (.iconst 1, 1) := by decide +kernel
theorem dX3_greatest_73 : decode cX3_greatest 73 = .ok (.ireturn, 1) := by decide +kernel
theorem dX3_kindAbove_0 : decode cX3_kindAbove 0 = .ok (.iload_n 0, 1) := by decide +kernel
theorem dX3_kindAbove_1 : decode cX3_kindAbove 1 = .ok (.lookupswitch 31 #[(4, 27), (5, 29)], 27) := by decide +kernel
theorem dX3_kindAbove_28 : decode cX3_kindAbove 28 = .ok (.iconst 1, 1) := by decide +kernel
theorem dX3_kindAbove_29 : decode cX3_kindAbove 29 = .ok (.ireturn, 1) := by decide +kernel
theorem dX3_kindAbove_30 : decode cX3_kindAbove 30 = .ok (.iconst 2, 1) := by decide +kernel
theorem dX3_kindAbove_31 : decode cX3_kindAbove 31 = .ok (.ireturn, 1) := by decide +kernel
theorem dX3_kindAbove_32 : decode cX3_kindAbove 32 = .ok (.iconst 0, 1) := by decide +kernel
theorem dX3_kindAbove_33 : decode cX3_kindAbove 33 = .ok (.ireturn, 1) := by decide +kernel
theorem dX3_isUnder_0 : decode cX3_isUnder 0 = .ok (.iload_n 0, 1) := by decide +kernel
theorem dX3_isUnder_1 : decode cX3_isUnder 1 = .ok (.iload_n 1, 1) := by decide +kernel
theorem dX3_isUnder_2 : decode cX3_isUnder 2 = .ok (.if_icmp .eq 15, 3) := by decide +kernel
theorem dX3_isUnder_5 : decode cX3_isUnder 5 = .ok (.iload_n 0, 1) := by decide +kernel
theorem dX3_isUnder_6 : decode cX3_isUnder 6 = .ok (.invokestatic 219, 3) := by decide +kernel
theorem dX3_isUnder_9 : decode cX3_isUnder 9 = .ok (.iload_n 1, 1) := by decide +kernel
theorem dX3_isUnder_10 : decode cX3_isUnder 10 = .ok (.if_icmp .eq 7, 3) := by decide +kernel
theorem dX3_isUnder_13 : decode cX3_isUnder 13 = .ok (.iload_n 1, 1) := by decide +kernel
theorem dX3_isUnder_14 : decode cX3_isUnder 14 = .ok (.ifCond .ne 7, 3) := by decide +kernel
theorem dX3_isUnder_17 : decode cX3_isUnder 17 = .ok (.iconst 1, 1) := by decide +kernel
theorem dX3_isUnder_18 : decode cX3_isUnder 18 = .ok (.goto 4, 3) := by decide +kernel
theorem dX3_isUnder_21 : decode cX3_isUnder 21 = .ok (.iconst 0, 1) := by decide +kernel
theorem dX3_isUnder_22 : decode cX3_isUnder 22 = .ok (.ireturn, 1) := by decide +kernel
theorem dX3_sheetAt_0 : decode cX3_sheetAt 0 = .ok (.iload_n 1, 1) := by decide +kernel
theorem dX3_sheetAt_1 : decode cX3_sheetAt 1 = .ok (.iconst 0, 1) := by decide +kernel
theorem dX3_sheetAt_2 : decode cX3_sheetAt 2 = .ok (.iconst 3, 1) := by decide +kernel
theorem dX3_sheetAt_3 : decode cX3_sheetAt 3 = .ok (.invokestatic 47, 3) := by decide +kernel
theorem dX3_sheetAt_6 : decode cX3_sheetAt 6 = .ok (.ifCond .eq 7, 3) := by decide +kernel
theorem dX3_sheetAt_9 : decode cX3_sheetAt 9 = .ok (.aconst_null, 1) := by decide +kernel
theorem dX3_sheetAt_10 : decode cX3_sheetAt 10 = .ok (.goto 9, 3) := by decide +kernel
theorem dX3_sheetAt_13 : decode cX3_sheetAt 13 = .ok (.aload_n 0, 1) := by decide +kernel
theorem dX3_sheetAt_14 : decode cX3_sheetAt 14 = .ok (.getfield 35, 3) := by decide +kernel
theorem dX3_sheetAt_17 : decode cX3_sheetAt 17 = .ok (.iload_n 1, 1) := by decide +kernel
theorem dX3_sheetAt_18 : decode cX3_sheetAt 18 = .ok (.aaload, 1) := by decide +kernel
theorem dX3_sheetAt_19 : decode cX3_sheetAt 19 = .ok (.areturn, 1) := by decide +kernel
theorem dX3_firstContent_0 : decode cX3_firstContent 0 = .ok (.aload_n 0, 1) := by decide +kernel
theorem dX3_firstContent_1 : decode cX3_firstContent 1 = .ok (.getfield 16, 3) := by decide +kernel
theorem dX3_firstContent_4 : decode cX3_firstContent 4 = .ok (.aload_n 0, 1) := by decide +kernel
theorem dX3_firstContent_5 : decode cX3_firstContent 5 = .ok (.getfield 10, 3) := by decide +kernel
theorem dX3_firstContent_8 : decode cX3_firstContent 8 = .ok (.invokevirtual 135, 3) := by decide +kernel
theorem dX3_firstContent_11 : decode cX3_firstContent 11 = .ok (.iconst 0, 1) := by decide +kernel
theorem dX3_firstContent_12 : decode cX3_firstContent 12 = .ok (.istore_n 2, 1) := by decide +kernel
theorem dX3_firstContent_13 : decode cX3_firstContent 13 = .ok (.iload_n 2, 1) := by decide +kernel
theorem dX3_firstContent_14 : decode cX3_firstContent 14 = .ok (.sipush 200, 3) := by decide +kernel
theorem dX3_firstContent_17 : decode cX3_firstContent 17 = .ok (.if_icmp .gt 32, 3) := by decide +kernel
theorem dX3_firstContent_20 : decode cX3_firstContent 20 = .ok (.aload_n 0, 1) := by decide +kernel
theorem dX3_firstContent_21 : decode cX3_firstContent 21 = .ok (.getfield 16, 3) := by decide +kernel
theorem dX3_firstContent_24 : decode cX3_firstContent 24 = .ok (.invokevirtual 71, 3) := by decide +kernel
theorem dX3_firstContent_27 : decode cX3_firstContent 27 = .ok (.iload_n 1, 1) := by decide +kernel
theorem dX3_firstContent_28 : decode cX3_firstContent 28 = .ok (.iand, 1) := by decide +kernel
theorem dX3_firstContent_29 : decode cX3_firstContent 29 = .ok (.iload_n 1, 1) := by decide +kernel
theorem dX3_firstContent_30 : decode cX3_firstContent 30 = .ok (.if_icmp .ne 5, 3) := by decide +kernel
theorem dX3_firstContent_33 : decode cX3_firstContent 33 = .ok (.iload_n 2, 1) := by decide +kernel
theorem dX3_firstContent_34 : decode cX3_firstContent 34 = .ok (.ireturn, 1) := by decide +kernel
theorem dX3_firstContent_35 : decode cX3_firstContent 35 = .ok (.aload_n 0, 1) := by decide +kernel
theorem dX3_firstContent_36 : decode cX3_firstContent 36 = .ok (.getfield 16, 3) := by decide +kernel
theorem dX3_firstContent_39 : decode cX3_firstContent 39 = .ok (.iconst 1, 1) := by decide +kernel
theorem dX3_firstContent_40 : decode cX3_firstContent 40 = .ok (.invokevirtual 131, 3) := by decide +kernel
theorem dX3_firstContent_43 : decode cX3_firstContent 43 = .ok (.iinc 2 1, 3) := by decide +kernel
theorem dX3_firstContent_46 : decode cX3_firstContent 46 = .ok (.goto (-33), 3) := by decide +kernel
theorem dX3_firstContent_49 : decode cX3_firstContent 49 = .ok (.aload_n 0, 1) := by decide +kernel
theorem dX3_firstContent_50 : decode cX3_firstContent 50 = .ok (.ldc 154, 2) := by decide +kernel
theorem dX3_firstContent_52 : decode cX3_firstContent 52 = .ok (.invokevirtual 52, 3) := by decide +kernel
theorem dX3_firstContent_55 : decode cX3_firstContent 55 = .ok (.ireturn, 1) := by decide +kernel
theorem dX3_suppose_0 : decode cX3_suppose 0 = .ok (.aload_n 0, 1) := by decide +kernel
theorem dX3_suppose_1 : decode cX3_suppose 1 = .ok (.getfield 16, 3) := by decide +kernel
theorem dX3_suppose_4 : decode cX3_suppose 4 = .ok (.aload_n 0, 1) := by decide +kernel
theorem dX3_suppose_5 : decode cX3_suppose 5 = .ok (.getfield 10, 3) := by decide +kernel
theorem dX3_suppose_8 : decode cX3_suppose 8 = .ok (.invokevirtual 135, 3) := by decide +kernel
theorem dX3_suppose_11 : decode cX3_suppose 11 = .ok (.aload_n 0, 1) := by decide +kernel
theorem dX3_suppose_12 : decode cX3_suppose 12 = .ok (.getfield 16, 3) := by decide +kernel
theorem dX3_suppose_15 : decode cX3_suppose 15 = .ok (.iload_n 1, 1) := by decide +kernel
theorem dX3_suppose_16 : decode cX3_suppose 16 = .ok (.iload_n 2, 1) := by decide +kernel
theorem dX3_suppose_17 : decode cX3_suppose 17 = .ok (.iload_n 3, 1) := by decide +kernel
theorem dX3_suppose_18 : decode cX3_suppose 18 = .ok (.invokevirtual 117, 3) := by decide +kernel
theorem dX3_suppose_21 : decode cX3_suppose 21 = .ok (.return_, 1) := by decide +kernel
theorem dX3_mostContentWith_0 : decode cX3_mostContentWith 0 = .ok (.iconst 0, 1) := by decide +kernel
theorem dX3_mostContentWith_1 : decode cX3_mostContentWith 1 = .ok (.istore 5, 2) := by decide +kernel
theorem dX3_mostContentWith_3 : decode cX3_mostContentWith 3 = .ok (.iconst (-1), 1) := by decide +kernel
theorem dX3_mostContentWith_4 : decode cX3_mostContentWith 4 = .ok (.istore 6, 2) := by decide +kernel
theorem dX3_mostContentWith_6 : decode cX3_mostContentWith 6 = .ok (.iconst 0, 1) := by decide +kernel
theorem dX3_mostContentWith_7 : decode cX3_mostContentWith 7 = .ok (.istore 7, 2) := by decide +kernel
theorem dX3_mostContentWith_9 : decode cX3_mostContentWith 9 = .ok (.iload 7, 2) := by decide +kernel
theorem dX3_mostContentWith_11 : decode cX3_mostContentWith 11 = .ok (.iload_n 3, 1) := by decide +kernel
theorem dX3_mostContentWith_12 : decode cX3_mostContentWith 12 = .ok (.if_icmp .gt 50, 3) := by decide +kernel
theorem dX3_mostContentWith_15 : decode cX3_mostContentWith 15 = .ok (.aload_n 0, 1) := by decide +kernel
theorem dX3_mostContentWith_16 : decode cX3_mostContentWith 16 = .ok (.iload_n 1, 1) := by decide +kernel
theorem dX3_mostContentWith_17 : decode cX3_mostContentWith 17 = .ok (.iload_n 2, 1) := by decide +kernel
theorem dX3_mostContentWith_18 : decode cX3_mostContentWith 18 = .ok (.iload 7, 2) := by decide +kernel
theorem dX3_mostContentWith_20 : decode cX3_mostContentWith 20 = .ok (.invokevirtual 151, 3) := by decide +kernel
theorem dX3_mostContentWith_23 : decode cX3_mostContentWith 23 = .ok (.aload_n 0, 1) := by decide +kernel
theorem dX3_mostContentWith_24 : decode cX3_mostContentWith 24 = .ok (.getfield 16, 3) := by decide +kernel
theorem dX3_mostContentWith_27 : decode cX3_mostContentWith 27 = .ok (.iload 4, 2) := by decide +kernel
theorem dX3_mostContentWith_29 : decode cX3_mostContentWith 29 = .ok (.invokevirtual 131, 3) := by decide +kernel
theorem dX3_mostContentWith_32 : decode cX3_mostContentWith 32 = .ok (.aload_n 0, 1) := by decide +kernel
theorem dX3_mostContentWith_33 : decode cX3_mostContentWith 33 = .ok (.getfield 16, 3) := by decide +kernel
theorem dX3_mostContentWith_36 : decode cX3_mostContentWith 36 = .ok (.invokevirtual 145, 3) := by decide +kernel
theorem dX3_mostContentWith_39 : decode cX3_mostContentWith 39 = .ok (.istore 8, 2) := by decide +kernel
theorem dX3_mostContentWith_41 : decode cX3_mostContentWith 41 = .ok (.iload 8, 2) := by decide +kernel
theorem dX3_mostContentWith_43 : decode cX3_mostContentWith 43 = .ok (.iload 6, 2) := by decide +kernel
theorem dX3_mostContentWith_45 : decode cX3_mostContentWith 45 = .ok (.if_icmp .le 11, 3) := by decide +kernel
theorem dX3_mostContentWith_48 : decode cX3_mostContentWith 48 = .ok (.iload 8, 2) := by decide +kernel
theorem dX3_mostContentWith_50 : decode cX3_mostContentWith 50 = .ok (.istore 6, 2) := by decide +kernel
theorem dX3_mostContentWith_52 : decode cX3_mostContentWith 52 = .ok (.iload 7, 2) := by decide +kernel
theorem dX3_mostContentWith_54 : decode cX3_mostContentWith 54 = .ok (.istore 5, 2) := by decide +kernel
theorem dX3_mostContentWith_56 : decode cX3_mostContentWith 56 = .ok (.iinc 7 1, 3) := by decide +kernel
theorem dX3_mostContentWith_59 : decode cX3_mostContentWith 59 = .ok (.goto (-50), 3) := by decide +kernel
theorem dX3_mostContentWith_62 : decode cX3_mostContentWith 62 = .ok (.iload 5, 2) := by decide +kernel
theorem dX3_mostContentWith_64 : decode cX3_mostContentWith 64 = .ok (.ireturn, 1) := by decide +kernel
theorem dX3_gatherContentWith_0 : decode cX3_gatherContentWith 0 = .ok (.iconst 0, 1) := by decide +kernel
theorem dX3_gatherContentWith_1 : decode cX3_gatherContentWith 1 = .ok (.istore_n 2, 1) := by decide +kernel
theorem dX3_gatherContentWith_2 : decode cX3_gatherContentWith 2 = .ok (.iload_n 2, 1) := by decide +kernel
theorem dX3_gatherContentWith_3 : decode cX3_gatherContentWith 3 = .ok (.bipush 8, 2) := by decide +kernel
theorem dX3_gatherContentWith_5 : decode cX3_gatherContentWith 5 = .ok (.if_icmp .ge 16, 3) := by decide +kernel
theorem dX3_gatherContentWith_8 : decode cX3_gatherContentWith 8 = .ok (.aload_n 0, 1) := by decide +kernel
theorem dX3_gatherContentWith_9 : decode cX3_gatherContentWith 9 = .ok (.getfield 44, 3) := by decide +kernel
theorem dX3_gatherContentWith_12 : decode cX3_gatherContentWith 12 = .ok (.iload_n 2, 1) := by decide +kernel
theorem dX3_gatherContentWith_13 : decode cX3_gatherContentWith 13 = .ok (.iconst 0, 1) := by decide +kernel
theorem dX3_gatherContentWith_14 : decode cX3_gatherContentWith 14 = .ok (.iastore, 1) := by decide +kernel
theorem dX3_gatherContentWith_15 : decode cX3_gatherContentWith 15 = .ok (.iinc 2 1, 3) := by decide +kernel
theorem dX3_gatherContentWith_18 : decode cX3_gatherContentWith 18 = .ok (.goto (-16), 3) := by decide +kernel
theorem dX3_gatherContentWith_21 : decode cX3_gatherContentWith 21 = .ok (.aload_n 0, 1) := by decide +kernel
theorem dX3_gatherContentWith_22 : decode cX3_gatherContentWith 22 = .ok (.getfield 16, 3) := by decide +kernel
theorem dX3_gatherContentWith_25 : decode cX3_gatherContentWith 25 = .ok (.aload_n 0, 1) := by decide +kernel
theorem dX3_gatherContentWith_26 : decode cX3_gatherContentWith 26 = .ok (.getfield 10, 3) := by decide +kernel
theorem dX3_gatherContentWith_29 : decode cX3_gatherContentWith 29 = .ok (.invokevirtual 135, 3) := by decide +kernel
theorem dX3_gatherContentWith_32 : decode cX3_gatherContentWith 32 = .ok (.iconst 0, 1) := by decide +kernel
theorem dX3_gatherContentWith_33 : decode cX3_gatherContentWith 33 = .ok (.istore_n 2, 1) := by decide +kernel
theorem dX3_gatherContentWith_34 : decode cX3_gatherContentWith 34 = .ok (.iload_n 2, 1) := by decide +kernel
theorem dX3_gatherContentWith_35 : decode cX3_gatherContentWith 35 = .ok (.iload_n 1, 1) := by decide +kernel
theorem dX3_gatherContentWith_36 : decode cX3_gatherContentWith 36 = .ok (.if_icmp .gt 62, 3) := by decide +kernel
theorem dX3_gatherContentWith_39 : decode cX3_gatherContentWith 39 = .ok (.aload_n 0, 1) := by decide +kernel
theorem dX3_gatherContentWith_40 : decode cX3_gatherContentWith 40 = .ok (.getfield 16, 3) := by decide +kernel
theorem dX3_gatherContentWith_43 : decode cX3_gatherContentWith 43 = .ok (.invokevirtual 71, 3) := by decide +kernel
theorem dX3_gatherContentWith_46 : decode cX3_gatherContentWith 46 = .ok (.istore_n 3, 1) := by decide +kernel
theorem dX3_gatherContentWith_47 : decode cX3_gatherContentWith 47 = .ok (.iconst 0, 1) := by decide +kernel
theorem dX3_gatherContentWith_48 : decode cX3_gatherContentWith 48 = .ok (.istore 4, 2) := by decide +kernel
theorem dX3_gatherContentWith_50 : decode cX3_gatherContentWith 50 = .ok (.iload 4, 2) := by decide +kernel
theorem dX3_gatherContentWith_52 : decode cX3_gatherContentWith 52 = .ok (.bipush 8, 2) := by decide +kernel
theorem dX3_gatherContentWith_54 : decode cX3_gatherContentWith 54 = .ok (.if_icmp .ge 30, 3) := by decide +kernel
theorem dX3_gatherContentWith_57 : decode cX3_gatherContentWith 57 = .ok (.iload_n 3, 1) := by decide +kernel
theorem dX3_gatherContentWith_58 : decode cX3_gatherContentWith 58 = .ok (.iload 4, 2) := by decide +kernel
theorem dX3_gatherContentWith_60 : decode cX3_gatherContentWith 60 = .ok (.ishr, 1) := by decide +kernel
theorem dX3_gatherContentWith_61 : decode cX3_gatherContentWith 61 = .ok (.iconst 1, 1) := by decide +kernel
theorem dX3_gatherContentWith_62 : decode cX3_gatherContentWith 62 = .ok (.iand, 1) := by decide +kernel
theorem dX3_gatherContentWith_63 : decode cX3_gatherContentWith 63 = .ok (.iconst 1, 1) := by decide +kernel
theorem dX3_gatherContentWith_64 : decode cX3_gatherContentWith 64 = .ok (.if_icmp .ne 14, 3) := by decide +kernel
theorem dX3_gatherContentWith_67 : decode cX3_gatherContentWith 67 = .ok (.aload_n 0, 1) := by decide +kernel
theorem dX3_gatherContentWith_68 : decode cX3_gatherContentWith 68 = .ok (.getfield 44, 3) := by decide +kernel
theorem dX3_gatherContentWith_71 : decode cX3_gatherContentWith 71 = .ok (.iload 4, 2) := by decide +kernel
theorem dX3_gatherContentWith_73 : decode cX3_gatherContentWith 73 = .ok (.dup2, 1) := by decide +kernel
theorem dX3_gatherContentWith_74 : decode cX3_gatherContentWith 74 = .ok (.iaload, 1) := by decide +kernel
theorem dX3_gatherContentWith_75 : decode cX3_gatherContentWith 75 = .ok (.iload_n 3, 1) := by decide +kernel
theorem dX3_gatherContentWith_76 : decode cX3_gatherContentWith 76 = .ok (.ior, 1) := by decide +kernel
theorem dX3_gatherContentWith_77 : decode cX3_gatherContentWith 77 = .ok (.iastore, 1) := by decide +kernel
theorem dX3_gatherContentWith_78 : decode cX3_gatherContentWith 78 = .ok (.iinc 4 1, 3) := by decide +kernel
theorem dX3_gatherContentWith_81 : decode cX3_gatherContentWith 81 = .ok (.goto (-31), 3) := by decide +kernel
theorem dX3_gatherContentWith_84 : decode cX3_gatherContentWith 84 = .ok (.aload_n 0, 1) := by decide +kernel
theorem dX3_gatherContentWith_85 : decode cX3_gatherContentWith 85 = .ok (.getfield 16, 3) := by decide +kernel
theorem dX3_gatherContentWith_88 : decode cX3_gatherContentWith 88 = .ok (.iconst 1, 1) := by decide +kernel
theorem dX3_gatherContentWith_89 : decode cX3_gatherContentWith 89 = .ok (.invokevirtual 131, 3) := by decide +kernel
theorem dX3_gatherContentWith_92 : decode cX3_gatherContentWith 92 = .ok (.iinc 2 1, 3) := by decide +kernel
theorem dX3_gatherContentWith_95 : decode cX3_gatherContentWith 95 = .ok (.goto (-61), 3) := by decide +kernel
theorem dX3_gatherContentWith_98 : decode cX3_gatherContentWith 98 = .ok (.return_, 1) := by decide +kernel
theorem dX3_wantsClash_0 : decode cX3_wantsClash 0 = .ok (.iload_n 1, 1) := by decide +kernel
theorem dX3_wantsClash_1 : decode cX3_wantsClash 1 = .ok (.iconst 0, 1) := by decide +kernel
theorem dX3_wantsClash_2 : decode cX3_wantsClash 2 = .ok (.bipush 7, 2) := by decide +kernel
theorem dX3_wantsClash_4 : decode cX3_wantsClash 4 = .ok (.invokestatic 47, 3) := by decide +kernel
theorem dX3_wantsClash_7 : decode cX3_wantsClash 7 = .ok (.ifCond .ne 13, 3) := by decide +kernel
theorem dX3_wantsClash_10 : decode cX3_wantsClash 10 = .ok (.iload_n 2, 1) := by decide +kernel
theorem dX3_wantsClash_11 : decode cX3_wantsClash 11 = .ok (.iconst 0, 1) := by decide +kernel
theorem dX3_wantsClash_12 : decode cX3_wantsClash 12 = .ok (.bipush 7, 2) := by decide +kernel
theorem dX3_wantsClash_14 : decode cX3_wantsClash 14 = .ok (.invokestatic 47, 3) := by decide +kernel
theorem dX3_wantsClash_17 : decode cX3_wantsClash 17 = .ok (.ifCond .eq 5, 3) := by decide +kernel
theorem dX3_wantsClash_20 : decode cX3_wantsClash 20 = .ok (.iconst 0, 1) := by decide +kernel
theorem dX3_wantsClash_21 : decode cX3_wantsClash 21 = .ok (.ireturn, 1) := by decide +kernel
theorem dX3_wantsClash_22 : decode cX3_wantsClash 22 = .ok (.aload_n 0, 1) := by decide +kernel
theorem dX3_wantsClash_23 : decode cX3_wantsClash 23 = .ok (.getfield 44, 3) := by decide +kernel
theorem dX3_wantsClash_26 : decode cX3_wantsClash 26 = .ok (.iload_n 1, 1) := by decide +kernel
theorem dX3_wantsClash_27 : decode cX3_wantsClash 27 = .ok (.iaload, 1) := by decide +kernel
theorem dX3_wantsClash_28 : decode cX3_wantsClash 28 = .ok (.ifCond .eq 29, 3) := by decide +kernel
theorem dX3_wantsClash_31 : decode cX3_wantsClash 31 = .ok (.aload_n 0, 1) := by decide +kernel
theorem dX3_wantsClash_32 : decode cX3_wantsClash 32 = .ok (.getfield 44, 3) := by decide +kernel
theorem dX3_wantsClash_35 : decode cX3_wantsClash 35 = .ok (.iload_n 2, 1) := by decide +kernel
theorem dX3_wantsClash_36 : decode cX3_wantsClash 36 = .ok (.iaload, 1) := by decide +kernel
theorem dX3_wantsClash_37 : decode cX3_wantsClash 37 = .ok (.ifCond .eq 20, 3) := by decide +kernel
theorem dX3_wantsClash_40 : decode cX3_wantsClash 40 = .ok (.aload_n 0, 1) := by decide +kernel
theorem dX3_wantsClash_41 : decode cX3_wantsClash 41 = .ok (.getfield 44, 3) := by decide +kernel
theorem dX3_wantsClash_44 : decode cX3_wantsClash 44 = .ok (.iload_n 1, 1) := by decide +kernel
theorem dX3_wantsClash_45 : decode cX3_wantsClash 45 = .ok (.iaload, 1) := by decide +kernel
theorem dX3_wantsClash_46 : decode cX3_wantsClash 46 = .ok (.iload_n 2, 1) := by decide +kernel
theorem dX3_wantsClash_47 : decode cX3_wantsClash 47 = .ok (.ishr, 1) := by decide +kernel
theorem dX3_wantsClash_48 : decode cX3_wantsClash 48 = .ok (.iconst 1, 1) := by decide +kernel
theorem dX3_wantsClash_49 : decode cX3_wantsClash 49 = .ok (.iand, 1) := by decide +kernel
theorem dX3_wantsClash_50 : decode cX3_wantsClash 50 = .ok (.ifCond .ne 7, 3) := by decide +kernel
theorem dX3_wantsClash_53 : decode cX3_wantsClash 53 = .ok (.iconst 1, 1) := by decide +kernel
theorem dX3_wantsClash_54 : decode cX3_wantsClash 54 = .ok (.goto 4, 3) := by decide +kernel
theorem dX3_wantsClash_57 : decode cX3_wantsClash 57 = .ok (.iconst 0, 1) := by decide +kernel
theorem dX3_wantsClash_58 : decode cX3_wantsClash 58 = .ok (.ireturn, 1) := by decide +kernel
theorem dX3_trialGoesAs_0 : decode cX3_trialGoesAs 0 = .ok (.iconst 0, 1) := by decide +kernel
theorem dX3_trialGoesAs_1 : decode cX3_trialGoesAs 1 = .ok (.istore_n 3, 1) := by decide +kernel
theorem dX3_trialGoesAs_2 : decode cX3_trialGoesAs 2 = .ok (.iload_n 3, 1) := by decide +kernel
theorem dX3_trialGoesAs_3 : decode cX3_trialGoesAs 3 = .ok (.aload_n 1, 1) := by decide +kernel
theorem dX3_trialGoesAs_4 : decode cX3_trialGoesAs 4 = .ok (.getfield 184, 3) := by decide +kernel
theorem dX3_trialGoesAs_7 : decode cX3_trialGoesAs 7 = .ok (.if_icmp .ge 37, 3) := by decide +kernel
theorem dX3_trialGoesAs_10 : decode cX3_trialGoesAs 10 = .ok (.aload_n 1, 1) := by decide +kernel
theorem dX3_trialGoesAs_11 : decode cX3_trialGoesAs 11 = .ok (.iload_n 3, 1) := by decide +kernel
theorem dX3_trialGoesAs_12 : decode cX3_trialGoesAs 12 = .ok (.invokevirtual 189, 3) := by decide +kernel
theorem dX3_trialGoesAs_15 : decode cX3_trialGoesAs 15 = .ok (.aload_n 0, 1) := by decide +kernel
theorem dX3_trialGoesAs_16 : decode cX3_trialGoesAs 16 = .ok (.getfield 16, 3) := by decide +kernel
theorem dX3_trialGoesAs_19 : decode cX3_trialGoesAs 19 = .ok (.iload_n 2, 1) := by decide +kernel
theorem dX3_trialGoesAs_20 : decode cX3_trialGoesAs 20 = .ok (.invokevirtual 212, 3) := by decide +kernel
theorem dX3_trialGoesAs_23 : decode cX3_trialGoesAs 23 = .ok (.i2l, 1) := by decide +kernel
theorem dX3_trialGoesAs_24 : decode cX3_trialGoesAs 24 = .ok (.lcmp, 1) := by decide +kernel
theorem dX3_trialGoesAs_25 : decode cX3_trialGoesAs 25 = .ok (.ifCond .eq 5, 3) := by decide +kernel
theorem dX3_trialGoesAs_28 : decode cX3_trialGoesAs 28 = .ok (.iconst 0, 1) := by decide +kernel
theorem dX3_trialGoesAs_29 : decode cX3_trialGoesAs 29 = .ok (.ireturn, 1) := by decide +kernel
theorem dX3_trialGoesAs_30 : decode cX3_trialGoesAs 30 = .ok (.aload_n 0, 1) := by decide +kernel
theorem dX3_trialGoesAs_31 : decode cX3_trialGoesAs 31 = .ok (.getfield 16, 3) := by decide +kernel
theorem dX3_trialGoesAs_34 : decode cX3_trialGoesAs 34 = .ok (.iconst 1, 1) := by decide +kernel
theorem dX3_trialGoesAs_35 : decode cX3_trialGoesAs 35 = .ok (.invokevirtual 131, 3) := by decide +kernel
theorem dX3_trialGoesAs_38 : decode cX3_trialGoesAs 38 = .ok (.iinc 3 1, 3) := by decide +kernel
theorem dX3_trialGoesAs_41 : decode cX3_trialGoesAs 41 = .ok (.goto (-39), 3) := by decide +kernel
theorem dX3_trialGoesAs_44 : decode cX3_trialGoesAs 44 = .ok (.iconst 1, 1) := by decide +kernel
theorem dX3_trialGoesAs_45 : decode cX3_trialGoesAs 45 = .ok (.ireturn, 1) := by decide +kernel
