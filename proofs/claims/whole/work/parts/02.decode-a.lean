theorem dX0_init_0 : decode cX0_init 0 = .ok (.aload_n 0, 1) := by decide +kernel
theorem dX0_init_1 : decode cX0_init 1 = .ok (.invokespecial 3, 3) := by decide +kernel
theorem dX0_init_4 : decode cX0_init 4 = .ok (.aload_n 0, 1) := by decide +kernel
theorem dX0_init_5 : decode cX0_init 5 = .ok (.iconst 0, 1) := by decide +kernel
theorem dX0_init_6 : decode cX0_init 6 = .ok (.putfield 9, 3) := by decide +kernel
theorem dX0_init_9 : decode cX0_init 9 = .ok (.aload_n 0, 1) := by decide +kernel
theorem dX0_init_10 : decode cX0_init 10 = .ok (.iconst 4, 1) := by decide +kernel
theorem dX0_init_11 : decode cX0_init 11 = .ok (.putfield 15, 3) := by decide +kernel
theorem dX0_init_14 : decode cX0_init 14 = .ok (.aload_n 0, 1) := by decide +kernel
theorem dX0_init_15 : decode cX0_init 15 = .ok (.iconst 0, 1) := by decide +kernel
theorem dX0_init_16 : decode cX0_init 16 = .ok (.putfield 18, 3) := by decide +kernel
theorem dX0_init_19 : decode cX0_init 19 = .ok (.aload_n 0, 1) := by decide +kernel
theorem dX0_init_20 : decode cX0_init 20 = .ok (.bipush 72, 2) := by decide +kernel
theorem dX0_init_22 : decode cX0_init 22 = .ok (.newarray .int, 2) := by decide +kernel
theorem dX0_init_24 : decode cX0_init 24 = .ok (.putfield 21, 3) := by decide +kernel
theorem dX0_init_27 : decode cX0_init 27 = .ok (.return_, 1) := by decide +kernel
theorem dX0_become_0 : decode cX0_become 0 = .ok (.aload_n 1, 1) := by decide +kernel
theorem dX0_become_1 : decode cX0_become 1 = .ok (.ifnonnull 4, 3) := by decide +kernel
theorem dX0_become_4 : decode cX0_become 4 = .ok (.return_, 1) := by decide +kernel
theorem dX0_become_5 : decode cX0_become 5 = .ok (.aload_n 0, 1) := by decide +kernel
theorem dX0_become_6 : decode cX0_become 6 = .ok (.aload_n 1, 1) := by decide +kernel
theorem dX0_become_7 : decode cX0_become 7 = .ok (.getfield 9, 3) := by decide +kernel
theorem dX0_become_10 : decode cX0_become 10 = .ok (.putfield 9, 3) := by decide +kernel
theorem dX0_become_13 : decode cX0_become 13 = .ok (.aload_n 0, 1) := by decide +kernel
theorem dX0_become_14 : decode cX0_become 14 = .ok (.aload_n 1, 1) := by decide +kernel
theorem dX0_become_15 : decode cX0_become 15 = .ok (.getfield 15, 3) := by decide +kernel
theorem dX0_become_18 : decode cX0_become 18 = .ok (.putfield 15, 3) := by decide +kernel
theorem dX0_become_21 : decode cX0_become 21 = .ok (.aload_n 0, 1) := by decide +kernel
theorem dX0_become_22 : decode cX0_become 22 = .ok (.aload_n 1, 1) := by decide +kernel
theorem dX0_become_23 : decode cX0_become 23 = .ok (.getfield 18, 3) := by decide +kernel
theorem dX0_become_26 : decode cX0_become 26 = .ok (.putfield 18, 3) := by decide +kernel
theorem dX0_become_29 : decode cX0_become 29 = .ok (.aload_n 1, 1) := by decide +kernel
theorem dX0_become_30 : decode cX0_become 30 = .ok (.getfield 21, 3) := by decide +kernel
theorem dX0_become_33 : decode cX0_become 33 = .ok (.iconst 0, 1) := by decide +kernel
theorem dX0_become_34 : decode cX0_become 34 = .ok (.aload_n 0, 1) := by decide +kernel
theorem dX0_become_35 : decode cX0_become 35 = .ok (.getfield 21, 3) := by decide +kernel
theorem dX0_become_38 : decode cX0_become 38 = .ok (.iconst 0, 1) := by decide +kernel
theorem dX0_become_39 : decode cX0_become 39 = .ok (.bipush 72, 2) := by decide +kernel
theorem dX0_become_41 : decode cX0_become 41 = .ok (.invokestatic 25, 3) := by decide +kernel
theorem dX0_become_44 : decode cX0_become 44 = .ok (.return_, 1) := by decide +kernel
theorem dX0_get_0 : decode cX0_get 0 = .ok (.iload_n 1, 1) := by decide +kernel
theorem dX0_get_1 : decode cX0_get 1 = .ok (.bipush 9, 2) := by decide +kernel
theorem dX0_get_3 : decode cX0_get 3 = .ok (.imul, 1) := by decide +kernel
theorem dX0_get_4 : decode cX0_get 4 = .ok (.iload_n 2, 1) := by decide +kernel
theorem dX0_get_5 : decode cX0_get 5 = .ok (.iadd, 1) := by decide +kernel
theorem dX0_get_6 : decode cX0_get 6 = .ok (.istore_n 3, 1) := by decide +kernel
theorem dX0_get_7 : decode cX0_get 7 = .ok (.iload_n 3, 1) := by decide +kernel
theorem dX0_get_8 : decode cX0_get 8 = .ok (.ifCond .lt 18, 3) := by decide +kernel
theorem dX0_get_11 : decode cX0_get 11 = .ok (.iload_n 3, 1) := by decide +kernel
theorem dX0_get_12 : decode cX0_get 12 = .ok (.bipush 72, 2) := by decide +kernel
theorem dX0_get_14 : decode cX0_get 14 = .ok (.if_icmp .ge 12, 3) := by decide +kernel
theorem dX0_get_17 : decode cX0_get 17 = .ok (.aload_n 0, 1) := by decide +kernel
theorem dX0_get_18 : decode cX0_get 18 = .ok (.getfield 21, 3) := by decide +kernel
theorem dX0_get_21 : decode cX0_get 21 = .ok (.iload_n 3, 1) := by decide +kernel
theorem dX0_get_22 : decode cX0_get 22 = .ok (.iaload, 1) := by decide +kernel
theorem dX0_get_23 : decode cX0_get 23 = .ok (.goto 4, 3) := by decide +kernel
theorem dX0_get_26 : decode cX0_get 26 = .ok (.iconst 0, 1) := by decide +kernel
theorem dX0_get_27 : decode cX0_get 27 = .ok (.ireturn, 1) := by decide +kernel
theorem dX0_put_0 : decode cX0_put 0 = .ok (.iload_n 1, 1) := by decide +kernel
theorem dX0_put_1 : decode cX0_put 1 = .ok (.bipush 9, 2) := by decide +kernel
theorem dX0_put_3 : decode cX0_put 3 = .ok (.imul, 1) := by decide +kernel
theorem dX0_put_4 : decode cX0_put 4 = .ok (.iload_n 2, 1) := by decide +kernel
theorem dX0_put_5 : decode cX0_put 5 = .ok (.iadd, 1) := by decide +kernel
theorem dX0_put_6 : decode cX0_put 6 = .ok (.istore 4, 2) := by decide +kernel
theorem dX0_put_8 : decode cX0_put 8 = .ok (.iload 4, 2) := by decide +kernel
theorem dX0_put_10 : decode cX0_put 10 = .ok (.ifCond .lt 18, 3) := by decide +kernel
theorem dX0_put_13 : decode cX0_put 13 = .ok (.iload 4, 2) := by decide +kernel
theorem dX0_put_15 : decode cX0_put 15 = .ok (.bipush 72, 2) := by decide +kernel
theorem dX0_put_17 : decode cX0_put 17 = .ok (.if_icmp .ge 11, 3) := by decide +kernel
theorem dX0_put_20 : decode cX0_put 20 = .ok (.aload_n 0, 1) := by decide +kernel
theorem dX0_put_21 : decode cX0_put 21 = .ok (.getfield 21, 3) := by decide +kernel
theorem dX0_put_24 : decode cX0_put 24 = .ok (.iload 4, 2) := by decide +kernel
theorem dX0_put_26 : decode cX0_put 26 = .ok (.iload_n 3, 1) := by decide +kernel
theorem dX0_put_27 : decode cX0_put 27 = .ok (.iastore, 1) := by decide +kernel
theorem dX0_put_28 : decode cX0_put 28 = .ok (.return_, 1) := by decide +kernel
theorem dX0_lacks_0 : decode cX0_lacks 0 = .ok (.iload_n 1, 1) := by decide +kernel
theorem dX0_lacks_1 : decode cX0_lacks 1 = .ok (.ifCond .lt 11, 3) := by decide +kernel
theorem dX0_lacks_4 : decode cX0_lacks 4 = .ok (.iload_n 1, 1) := by decide +kernel
theorem dX0_lacks_5 : decode cX0_lacks 5 = .ok (.aload_n 0, 1) := by decide +kernel
theorem dX0_lacks_6 : decode cX0_lacks 6 = .ok (.getfield 18, 3) := by decide +kernel
theorem dX0_lacks_9 : decode cX0_lacks 9 = .ok (.if_icmp .lt 7, 3) := by decide +kernel
theorem dX0_lacks_12 : decode cX0_lacks 12 = .ok (.iconst 1, 1) := by decide +kernel
theorem dX0_lacks_13 : decode cX0_lacks 13 = .ok (.goto 4, 3) := by decide +kernel
theorem dX0_lacks_16 : decode cX0_lacks 16 = .ok (.iconst 0, 1) := by decide +kernel
theorem dX0_lacks_17 : decode cX0_lacks 17 = .ok (.ireturn, 1) := by decide +kernel
theorem dX0_isFull_0 : decode cX0_isFull 0 = .ok (.aload_n 0, 1) := by decide +kernel
theorem dX0_isFull_1 : decode cX0_isFull 1 = .ok (.getfield 18, 3) := by decide +kernel
theorem dX0_isFull_4 : decode cX0_isFull 4 = .ok (.bipush 8, 2) := by decide +kernel
theorem dX0_isFull_6 : decode cX0_isFull 6 = .ok (.if_icmp .lt 7, 3) := by decide +kernel
theorem dX0_isFull_9 : decode cX0_isFull 9 = .ok (.iconst 1, 1) := by decide +kernel
theorem dX0_isFull_10 : decode cX0_isFull 10 = .ok (.goto 4, 3) := by decide +kernel
theorem dX0_isFull_13 : decode cX0_isFull 13 = .ok (.iconst 0, 1) := by decide +kernel
theorem dX0_isFull_14 : decode cX0_isFull 14 = .ok (.ireturn, 1) := by decide +kernel
theorem dX0_hang_0 : decode cX0_hang 0 = .ok (.aload_n 0, 1) := by decide +kernel
theorem dX0_hang_1 : decode cX0_hang 1 = .ok (.getfield 18, 3) := by decide +kernel
theorem dX0_hang_4 : decode cX0_hang 4 = .ok (.istore 4, 2) := by decide +kernel
theorem dX0_hang_6 : decode cX0_hang 6 = .ok (.aload_n 0, 1) := by decide +kernel
theorem dX0_hang_7 : decode cX0_hang 7 = .ok (.iload 4, 2) := by decide +kernel
theorem dX0_hang_9 : decode cX0_hang 9 = .ok (.iconst 0, 1) := by decide +kernel
theorem dX0_hang_10 : decode cX0_hang 10 = .ok (.iload_n 1, 1) := by decide +kernel
theorem dX0_hang_11 : decode cX0_hang 11 = .ok (.invokevirtual 31, 3) := by decide +kernel
theorem dX0_hang_14 : decode cX0_hang 14 = .ok (.aload_n 0, 1) := by decide +kernel
theorem dX0_hang_15 : decode cX0_hang 15 = .ok (.iload 4, 2) := by decide +kernel
theorem dX0_hang_17 : decode cX0_hang 17 = .ok (.iconst 1, 1) := by decide +kernel
theorem dX0_hang_18 : decode cX0_hang 18 = .ok (.iload_n 2, 1) := by decide +kernel
theorem dX0_hang_19 : decode cX0_hang 19 = .ok (.invokevirtual 31, 3) := by decide +kernel
theorem dX0_hang_22 : decode cX0_hang 22 = .ok (.aload_n 0, 1) := by decide +kernel
theorem dX0_hang_23 : decode cX0_hang 23 = .ok (.iload 4, 2) := by decide +kernel
theorem dX0_hang_25 : decode cX0_hang 25 = .ok (.iconst 2, 1) := by decide +kernel
theorem dX0_hang_26 : decode cX0_hang 26 = .ok (.iload_n 3, 1) := by decide +kernel
theorem dX0_hang_27 : decode cX0_hang 27 = .ok (.invokevirtual 31, 3) := by decide +kernel
theorem dX0_hang_30 : decode cX0_hang 30 = .ok (.aload_n 0, 1) := by decide +kernel
theorem dX0_hang_31 : decode cX0_hang 31 = .ok (.iload 4, 2) := by decide +kernel
theorem dX0_hang_33 : decode cX0_hang 33 = .ok (.iconst 3, 1) := by decide +kernel
theorem dX0_hang_34 : decode cX0_hang 34 = .ok (.bipush 50, 2) := by decide +kernel
theorem dX0_hang_36 : decode cX0_hang 36 = .ok (.invokevirtual 31, 3) := by decide +kernel
theorem dX0_hang_39 : decode cX0_hang 39 = .ok (.aload_n 0, 1) := by decide +kernel
theorem dX0_hang_40 : decode cX0_hang 40 = .ok (.iload 4, 2) := by decide +kernel
theorem dX0_hang_42 : decode cX0_hang 42 = .ok (.iconst 4, 1) := by decide +kernel
theorem dX0_hang_43 : decode cX0_hang 43 = .ok (.iconst 0, 1) := by decide +kernel
theorem dX0_hang_44 : decode cX0_hang 44 = .ok (.invokevirtual 31, 3) := by decide +kernel
theorem dX0_hang_47 : decode cX0_hang 47 = .ok (.aload_n 0, 1) := by decide +kernel
theorem dX0_hang_48 : decode cX0_hang 48 = .ok (.iload 4, 2) := by decide +kernel
theorem dX0_hang_50 : decode cX0_hang 50 = .ok (.iconst 5, 1) := by decide +kernel
theorem dX0_hang_51 : decode cX0_hang 51 = .ok (.iconst 0, 1) := by decide +kernel
theorem dX0_hang_52 : decode cX0_hang 52 = .ok (.invokevirtual 31, 3) := by decide +kernel
theorem dX0_hang_55 : decode cX0_hang 55 = .ok (.aload_n 0, 1) := by decide +kernel
theorem dX0_hang_56 : decode cX0_hang 56 = .ok (.iload 4, 2) := by decide +kernel
theorem dX0_hang_58 : decode cX0_hang 58 = .ok (.bipush 6, 2) := by decide +kernel
theorem dX0_hang_60 : decode cX0_hang 60 = .ok (.iconst (-1), 1) := by decide +kernel
theorem dX0_hang_61 : decode cX0_hang 61 = .ok (.invokevirtual 31, 3) := by decide +kernel
theorem dX0_hang_64 : decode cX0_hang 64 = .ok (.aload_n 0, 1) := by decide +kernel
theorem dX0_hang_65 : decode cX0_hang 65 = .ok (.iload 4, 2) := by decide +kernel
theorem dX0_hang_67 : decode cX0_hang 67 = .ok (.bipush 7, 2) := by decide +kernel
theorem dX0_hang_69 : decode cX0_hang 69 = .ok (.iconst 0, 1) := by decide +kernel
theorem dX0_hang_70 : decode cX0_hang 70 = .ok (.invokevirtual 31, 3) := by decide +kernel
theorem dX0_hang_73 : decode cX0_hang 73 = .ok (.aload_n 0, 1) := by decide +kernel
theorem dX0_hang_74 : decode cX0_hang 74 = .ok (.iload 4, 2) := by decide +kernel
theorem dX0_hang_76 : decode cX0_hang 76 = .ok (.bipush 8, 2) := by decide +kernel
theorem dX0_hang_78 : decode cX0_hang 78 = .ok (.iconst 0, 1) := by decide +kernel
theorem dX0_hang_79 : decode cX0_hang 79 = .ok (.invokevirtual 31, 3) := by decide +kernel
theorem dX0_hang_82 : decode cX0_hang 82 = .ok (.aload_n 0, 1) := by decide +kernel
theorem dX0_hang_83 : decode cX0_hang 83 = .ok (.iload 4, 2) := by decide +kernel
theorem dX0_hang_85 : decode cX0_hang 85 = .ok (.iconst 1, 1) := by decide +kernel
theorem dX0_hang_86 : decode cX0_hang 86 = .ok (.iadd, 1) := by decide +kernel
theorem dX0_hang_87 : decode cX0_hang 87 = .ok (.putfield 18, 3) := by decide +kernel
theorem dX0_hang_90 : decode cX0_hang 90 = .ok (.iload 4, 2) := by decide +kernel
theorem dX0_hang_92 : decode cX0_hang 92 = .ok (.ireturn, 1) := by decide +kernel
theorem dX0_hourOfNight_0 : decode cX0_hourOfNight 0 = .ok (.aload_n 0, 1) := by decide +kernel
theorem dX0_hourOfNight_1 : decode cX0_hourOfNight 1 = .ok (.getfield 9, 3) := by decide +kernel
theorem dX0_hourOfNight_4 : decode cX0_hourOfNight 4 = .ok (.bipush 8, 2) := by decide +kernel
theorem dX0_hourOfNight_6 : decode cX0_hourOfNight 6 = .ok (.irem, 1) := by decide +kernel
theorem dX0_hourOfNight_7 : decode cX0_hourOfNight 7 = .ok (.ireturn, 1) := by decide +kernel
theorem dX0_isTacky_0 : decode cX0_isTacky 0 = .ok (.aload_n 0, 1) := by decide +kernel
theorem dX0_isTacky_1 : decode cX0_isTacky 1 = .ok (.invokevirtual 35, 3) := by decide +kernel
theorem dX0_isTacky_4 : decode cX0_isTacky 4 = .ok (.aload_n 0, 1) := by decide +kernel
theorem dX0_isTacky_5 : decode cX0_isTacky 5 = .ok (.getfield 15, 3) := by decide +kernel
theorem dX0_isTacky_8 : decode cX0_isTacky 8 = .ok (.if_icmp .lt 7, 3) := by decide +kernel
theorem dX0_isTacky_11 : decode cX0_isTacky 11 = .ok (.iconst 1, 1) := by decide +kernel
theorem dX0_isTacky_12 : decode cX0_isTacky 12 = .ok (.goto 4, 3) := by decide +kernel
theorem dX0_isTacky_15 : decode cX0_isTacky 15 = .ok (.iconst 0, 1) := by decide +kernel
theorem dX0_isTacky_16 : decode cX0_isTacky 16 = .ok (.ireturn, 1) := by decide +kernel
theorem dX0_everybody_0 : decode cX0_everybody 0 = .ok (.iconst 1, 1) := by decide +kernel
theorem dX0_everybody_1 : decode cX0_everybody 1 = .ok (.aload_n 0, 1) := by decide +kernel
theorem dX0_everybody_2 : decode cX0_everybody 2 = .ok (.getfield 18, 3) := by decide +kernel
theorem dX0_everybody_5 : decode cX0_everybody 5 = .ok (.ishl, 1) := by decide +kernel
theorem dX0_everybody_6 : decode cX0_everybody 6 = .ok (.iconst 1, 1) := by decide +kernel
theorem dX0_everybody_7 : decode cX0_everybody 7 = .ok (.isub, 1) := by decide +kernel
theorem dX0_everybody_8 : decode cX0_everybody 8 = .ok (.ireturn, 1) := by decide +kernel
theorem dX0_sum_0 : decode cX0_sum 0 = .ok (.iconst 0, 1) := by decide +kernel
theorem dX0_sum_1 : decode cX0_sum 1 = .ok (.istore_n 2, 1) := by decide +kernel
theorem dX0_sum_2 : decode cX0_sum 2 = .ok (.iconst 0, 1) := by decide +kernel
theorem dX0_sum_3 : decode cX0_sum 3 = .ok (.istore_n 3, 1) := by decide +kernel
theorem dX0_sum_4 : decode cX0_sum 4 = .ok (.iload_n 3, 1) := by decide +kernel
theorem dX0_sum_5 : decode cX0_sum 5 = .ok (.aload_n 0, 1) := by decide +kernel
theorem dX0_sum_6 : decode cX0_sum 6 = .ok (.getfield 18, 3) := by decide +kernel
theorem dX0_sum_9 : decode cX0_sum 9 = .ok (.if_icmp .ge 18, 3) := by decide +kernel
theorem dX0_sum_12 : decode cX0_sum 12 = .ok (.iload_n 2, 1) := by decide +kernel
theorem dX0_sum_13 : decode cX0_sum 13 = .ok (.aload_n 0, 1) := by decide +kernel
theorem dX0_sum_14 : decode cX0_sum 14 = .ok (.iload_n 3, 1) := by decide +kernel
theorem dX0_sum_15 : decode cX0_sum 15 = .ok (.iload_n 1, 1) := by decide +kernel
theorem dX0_sum_16 : decode cX0_sum 16 = .ok (.invokevirtual 39, 3) := by decide +kernel
theorem dX0_sum_19 : decode cX0_sum 19 = .ok (.iadd, 1) := by decide +kernel
theorem dX0_sum_20 : decode cX0_sum 20 = .ok (.istore_n 2, 1) := by decide +kernel
theorem dX0_sum_21 : decode cX0_sum 21 = .ok (.iinc 3 1, 3) := by decide +kernel
theorem dX0_sum_24 : decode cX0_sum 24 = .ok (.goto (-20), 3) := by decide +kernel
theorem dX0_sum_27 : decode cX0_sum 27 = .ok (.iload_n 2, 1) := by decide +kernel
theorem dX0_sum_28 : decode cX0_sum 28 = .ok (.ireturn, 1) := by decide +kernel
theorem dX0_whoHas_0 : decode cX0_whoHas 0 = .ok (.iconst 0, 1) := by decide +kernel
theorem dX0_whoHas_1 : decode cX0_whoHas 1 = .ok (.istore_n 3, 1) := by decide +kernel
theorem dX0_whoHas_2 : decode cX0_whoHas 2 = .ok (.iconst 0, 1) := by decide +kernel
theorem dX0_whoHas_3 : decode cX0_whoHas 3 = .ok (.istore 4, 2) := by decide +kernel
theorem dX0_whoHas_5 : decode cX0_whoHas 5 = .ok (.iload 4, 2) := by decide +kernel
theorem dX0_whoHas_7 : decode cX0_whoHas 7 = .ok (.aload_n 0, 1) := by decide +kernel
theorem dX0_whoHas_8 : decode cX0_whoHas 8 = .ok (.getfield 18, 3) := by decide +kernel
theorem dX0_whoHas_11 : decode cX0_whoHas 11 = .ok (.if_icmp .ge 27, 3) := by decide +kernel
theorem dX0_whoHas_14 : decode cX0_whoHas 14 = .ok (.aload_n 0, 1) := by decide +kernel
theorem dX0_whoHas_15 : decode cX0_whoHas 15 = .ok (.iload 4, 2) := by decide +kernel
theorem dX0_whoHas_17 : decode cX0_whoHas 17 = .ok (.iload_n 1, 1) := by decide +kernel
theorem dX0_whoHas_18 : decode cX0_whoHas 18 = .ok (.invokevirtual 39, 3) := by decide +kernel
theorem dX0_whoHas_21 : decode cX0_whoHas 21 = .ok (.iload_n 2, 1) := by decide +kernel
theorem dX0_whoHas_22 : decode cX0_whoHas 22 = .ok (.if_icmp .ne 10, 3) := by decide +kernel
theorem dX0_whoHas_25 : decode cX0_whoHas 25 = .ok (.iload_n 3, 1) := by decide +kernel
theorem dX0_whoHas_26 : decode cX0_whoHas 26 = .ok (.iconst 1, 1) := by decide +kernel
theorem dX0_whoHas_27 : decode cX0_whoHas 27 = .ok (.iload 4, 2) := by decide +kernel
theorem dX0_whoHas_29 : decode cX0_whoHas 29 = .ok (.ishl, 1) := by decide +kernel
theorem dX0_whoHas_30 : decode cX0_whoHas 30 = .ok (.ior, 1) := by decide +kernel
theorem dX0_whoHas_31 : decode cX0_whoHas 31 = .ok (.istore_n 3, 1) := by decide +kernel
theorem dX0_whoHas_32 : decode cX0_whoHas 32 = .ok (.iinc 4 1, 3) := by decide +kernel
theorem dX0_whoHas_35 : decode cX0_whoHas 35 = .ok (.goto (-30), 3) := by decide +kernel
theorem dX0_whoHas_38 : decode cX0_whoHas 38 = .ok (.iload_n 3, 1) := by decide +kernel
theorem dX0_whoHas_39 : decode cX0_whoHas 39 = .ok (.ireturn, 1) := by decide +kernel
theorem dX0_whoIsContent_0 : decode cX0_whoIsContent 0 = .ok (.iconst 0, 1) := by decide +kernel
theorem dX0_whoIsContent_1 : decode cX0_whoIsContent 1 = .ok (.istore_n 1, 1) := by decide +kernel
theorem dX0_whoIsContent_2 : decode cX0_whoIsContent 2 = .ok (.iconst 0, 1) := by decide +kernel
theorem dX0_whoIsContent_3 : decode cX0_whoIsContent 3 = .ok (.istore_n 2, 1) := by decide +kernel
theorem dX0_whoIsContent_4 : decode cX0_whoIsContent 4 = .ok (.iload_n 2, 1) := by decide +kernel
theorem dX0_whoIsContent_5 : decode cX0_whoIsContent 5 = .ok (.aload_n 0, 1) := by decide +kernel
theorem dX0_whoIsContent_6 : decode cX0_whoIsContent 6 = .ok (.getfield 18, 3) := by decide +kernel
theorem dX0_whoIsContent_9 : decode cX0_whoIsContent 9 = .ok (.if_icmp .ge 23, 3) := by decide +kernel
theorem dX0_whoIsContent_12 : decode cX0_whoIsContent 12 = .ok (.aload_n 0, 1) := by decide +kernel
theorem dX0_whoIsContent_13 : decode cX0_whoIsContent 13 = .ok (.iload_n 2, 1) := by decide +kernel
theorem dX0_whoIsContent_14 : decode cX0_whoIsContent 14 = .ok (.invokevirtual 43, 3) := by decide +kernel
theorem dX0_whoIsContent_17 : decode cX0_whoIsContent 17 = .ok (.ifCond .eq 9, 3) := by decide +kernel
theorem dX0_whoIsContent_20 : decode cX0_whoIsContent 20 = .ok (.iload_n 1, 1) := by decide +kernel
theorem dX0_whoIsContent_21 : decode cX0_whoIsContent 21 = .ok (.iconst 1, 1) := by decide +kernel
theorem dX0_whoIsContent_22 : decode cX0_whoIsContent 22 = .ok (.iload_n 2, 1) := by decide +kernel
theorem dX0_whoIsContent_23 : decode cX0_whoIsContent 23 = .ok (.ishl, 1) := by decide +kernel
theorem dX0_whoIsContent_24 : decode cX0_whoIsContent 24 = .ok (.ior, 1) := by decide +kernel
theorem dX0_whoIsContent_25 : decode cX0_whoIsContent 25 = .ok (.istore_n 1, 1) := by decide +kernel
theorem dX0_whoIsContent_26 : decode cX0_whoIsContent 26 = .ok (.iinc 2 1, 3) := by decide +kernel
theorem dX0_whoIsContent_29 : decode cX0_whoIsContent 29 = .ok (.goto (-25), 3) := by decide +kernel
theorem dX0_whoIsContent_32 : decode cX0_whoIsContent 32 = .ok (.iload_n 1, 1) := by decide +kernel
theorem dX0_whoIsContent_33 : decode cX0_whoIsContent 33 = .ok (.ireturn, 1) := by decide +kernel
theorem dX0_whoIsWaiting_0 : decode cX0_whoIsWaiting 0 = .ok (.iconst 0, 1) := by decide +kernel
theorem dX0_whoIsWaiting_1 : decode cX0_whoIsWaiting 1 = .ok (.istore_n 1, 1) := by decide +kernel
theorem dX0_whoIsWaiting_2 : decode cX0_whoIsWaiting 2 = .ok (.iconst 0, 1) := by decide +kernel
theorem dX0_whoIsWaiting_3 : decode cX0_whoIsWaiting 3 = .ok (.istore_n 2, 1) := by decide +kernel
theorem dX0_whoIsWaiting_4 : decode cX0_whoIsWaiting 4 = .ok (.iload_n 2, 1) := by decide +kernel
theorem dX0_whoIsWaiting_5 : decode cX0_whoIsWaiting 5 = .ok (.aload_n 0, 1) := by decide +kernel
theorem dX0_whoIsWaiting_6 : decode cX0_whoIsWaiting 6 = .ok (.getfield 18, 3) := by decide +kernel
theorem dX0_whoIsWaiting_9 : decode cX0_whoIsWaiting 9 = .ok (.if_icmp .ge 23, 3) := by decide +kernel
theorem dX0_whoIsWaiting_12 : decode cX0_whoIsWaiting 12 = .ok (.aload_n 0, 1) := by decide +kernel
theorem dX0_whoIsWaiting_13 : decode cX0_whoIsWaiting 13 = .ok (.iload_n 2, 1) := by decide +kernel
theorem dX0_whoIsWaiting_14 : decode cX0_whoIsWaiting 14 = .ok (.invokevirtual 47, 3) := by decide +kernel
theorem dX0_whoIsWaiting_17 : decode cX0_whoIsWaiting 17 = .ok (.ifCond .eq 9, 3) := by decide +kernel
theorem dX0_whoIsWaiting_20 : decode cX0_whoIsWaiting 20 = .ok (.iload_n 1, 1) := by decide +kernel
theorem dX0_whoIsWaiting_21 : decode cX0_whoIsWaiting 21 = .ok (.iconst 1, 1) := by decide +kernel
theorem dX0_whoIsWaiting_22 : decode cX0_whoIsWaiting 22 = .ok (.iload_n 2, 1) := by decide +kernel
theorem dX0_whoIsWaiting_23 : decode cX0_whoIsWaiting 23 = .ok (.ishl, 1) := by decide +kernel
theorem dX0_whoIsWaiting_24 : decode cX0_whoIsWaiting 24 = .ok (.ior, 1) := by decide +kernel
theorem dX0_whoIsWaiting_25 : decode cX0_whoIsWaiting 25 = .ok (.istore_n 1, 1) := by decide +kernel
theorem dX0_whoIsWaiting_26 : decode cX0_whoIsWaiting 26 = .ok (.iinc 2 1, 3) := by decide +kernel
theorem dX0_whoIsWaiting_29 : decode cX0_whoIsWaiting 29 = .ok (.goto (-25), 3) := by decide +kernel
theorem dX0_whoIsWaiting_32 : decode cX0_whoIsWaiting 32 = .ok (.iload_n 1, 1) := by decide +kernel
theorem dX0_whoIsWaiting_33 : decode cX0_whoIsWaiting 33 = .ok (.ireturn, 1) := by decide +kernel
theorem dX0_whoIsSeen_0 : decode cX0_whoIsSeen 0 = .ok (.iconst 0, 1) := by decide +kernel
theorem dX0_whoIsSeen_1 : decode cX0_whoIsSeen 1 = .ok (.istore_n 1, 1) := by decide +kernel
theorem dX0_whoIsSeen_2 : decode cX0_whoIsSeen 2 = .ok (.iconst 0, 1) := by decide +kernel
theorem dX0_whoIsSeen_3 : decode cX0_whoIsSeen 3 = .ok (.istore_n 2, 1) := by decide +kernel
theorem dX0_whoIsSeen_4 : decode cX0_whoIsSeen 4 = .ok (.iload_n 2, 1) := by decide +kernel
theorem dX0_whoIsSeen_5 : decode cX0_whoIsSeen 5 = .ok (.aload_n 0, 1) := by decide +kernel
theorem dX0_whoIsSeen_6 : decode cX0_whoIsSeen 6 = .ok (.getfield 18, 3) := by decide +kernel
theorem dX0_whoIsSeen_9 : decode cX0_whoIsSeen 9 = .ok (.if_icmp .ge 23, 3) := by decide +kernel
theorem dX0_whoIsSeen_12 : decode cX0_whoIsSeen 12 = .ok (.aload_n 0, 1) := by decide +kernel
theorem dX0_whoIsSeen_13 : decode cX0_whoIsSeen 13 = .ok (.iload_n 2, 1) := by decide +kernel
theorem dX0_whoIsSeen_14 : decode cX0_whoIsSeen 14 = .ok (.invokevirtual 50, 3) := by decide +kernel
theorem dX0_whoIsSeen_17 : decode cX0_whoIsSeen 17 = .ok (.ifCond .eq 9, 3) := by decide +kernel
theorem dX0_whoIsSeen_20 : decode cX0_whoIsSeen 20 = .ok (.iload_n 1, 1) := by decide +kernel
theorem dX0_whoIsSeen_21 : decode cX0_whoIsSeen 21 = .ok (.iconst 1, 1) := by decide +kernel
theorem dX0_whoIsSeen_22 : decode cX0_whoIsSeen 22 = .ok (.iload_n 2, 1) := by decide +kernel
theorem dX0_whoIsSeen_23 : decode cX0_whoIsSeen 23 = .ok (.ishl, 1) := by decide +kernel
theorem dX0_whoIsSeen_24 : decode cX0_whoIsSeen 24 = .ok (.ior, 1) := by decide +kernel
theorem dX0_whoIsSeen_25 : decode cX0_whoIsSeen 25 = .ok (.istore_n 1, 1) := by decide +kernel
theorem dX0_whoIsSeen_26 : decode cX0_whoIsSeen 26 = .ok (.iinc 2 1, 3) := by decide +kernel
theorem dX0_whoIsSeen_29 : decode cX0_whoIsSeen 29 = .ok (.goto (-25), 3) := by decide +kernel
theorem dX0_whoIsSeen_32 : decode cX0_whoIsSeen 32 = .ok (.iload_n 1, 1) := by decide +kernel
theorem dX0_whoIsSeen_33 : decode cX0_whoIsSeen 33 = .ok (.ireturn, 1) := by decide +kernel
theorem dX0_howManyContent_0 : decode cX0_howManyContent 0 = .ok (.aload_n 0, 1) := by decide +kernel
theorem dX0_howManyContent_1 : decode cX0_howManyContent 1 = .ok (.invokevirtual 54, 3) := by decide +kernel
theorem dX0_howManyContent_4 : decode cX0_howManyContent 4 = .ok (.invokestatic 57, 3) := by decide +kernel
theorem dX0_howManyContent_7 : decode cX0_howManyContent 7 = .ok (.ireturn, 1) := by decide +kernel
theorem dX0_look_0 : decode cX0_look 0 = .ok (.bipush 100, 2) := by decide +kernel
theorem dX0_look_2 : decode cX0_look 2 = .ok (.aload_n 0, 1) := by decide +kernel
theorem dX0_look_3 : decode cX0_look 3 = .ok (.iload_n 1, 1) := by decide +kernel
theorem dX0_look_4 : decode cX0_look 4 = .ok (.iconst 2, 1) := by decide +kernel
theorem dX0_look_5 : decode cX0_look 5 = .ok (.invokevirtual 39, 3) := by decide +kernel
theorem dX0_look_8 : decode cX0_look 8 = .ok (.imul, 1) := by decide +kernel
theorem dX0_look_9 : decode cX0_look 9 = .ok (.aload_n 0, 1) := by decide +kernel
theorem dX0_look_10 : decode cX0_look 10 = .ok (.iload_n 1, 1) := by decide +kernel
theorem dX0_look_11 : decode cX0_look 11 = .ok (.iconst 3, 1) := by decide +kernel
theorem dX0_look_12 : decode cX0_look 12 = .ok (.invokevirtual 39, 3) := by decide +kernel
theorem dX0_look_15 : decode cX0_look 15 = .ok (.iadd, 1) := by decide +kernel
theorem dX0_look_16 : decode cX0_look 16 = .ok (.ireturn, 1) := by decide +kernel
theorem dX0_lampsOn_0 : decode cX0_lampsOn 0 = .ok (.aload_n 0, 1) := by decide +kernel
theorem dX0_lampsOn_1 : decode cX0_lampsOn 1 = .ok (.iload_n 1, 1) := by decide +kernel
theorem dX0_lampsOn_2 : decode cX0_lampsOn 2 = .ok (.iconst 1, 1) := by decide +kernel
theorem dX0_lampsOn_3 : decode cX0_lampsOn 3 = .ok (.invokevirtual 39, 3) := by decide +kernel
theorem dX0_lampsOn_6 : decode cX0_lampsOn 6 = .ok (.istore_n 2, 1) := by decide +kernel
theorem dX0_lampsOn_7 : decode cX0_lampsOn 7 = .ok (.aload_n 0, 1) := by decide +kernel
theorem dX0_lampsOn_8 : decode cX0_lampsOn 8 = .ok (.iload_n 1, 1) := by decide +kernel
theorem dX0_lampsOn_9 : decode cX0_lampsOn 9 = .ok (.iconst 2, 1) := by decide +kernel
theorem dX0_lampsOn_10 : decode cX0_lampsOn 10 = .ok (.invokevirtual 39, 3) := by decide +kernel
theorem dX0_lampsOn_13 : decode cX0_lampsOn 13 = .ok (.istore_n 3, 1) := by decide +kernel
theorem dX0_lampsOn_14 : decode cX0_lampsOn 14 = .ok (.iconst 0, 1) := by decide +kernel
theorem dX0_lampsOn_15 : decode cX0_lampsOn 15 = .ok (.istore 4, 2) := by decide +kernel
theorem dX0_lampsOn_17 : decode cX0_lampsOn 17 = .ok (.iconst 0, 1) := by decide +kernel
theorem dX0_lampsOn_18 : decode cX0_lampsOn 18 = .ok (.istore 5, 2) := by decide +kernel
theorem dX0_lampsOn_20 : decode cX0_lampsOn 20 = .ok (.iload 5, 2) := by decide +kernel
theorem dX0_lampsOn_22 : decode cX0_lampsOn 22 = .ok (.aload_n 0, 1) := by decide +kernel
theorem dX0_lampsOn_23 : decode cX0_lampsOn 23 = .ok (.getfield 18, 3) := by decide +kernel
theorem dX0_lampsOn_26 : decode cX0_lampsOn 26 = .ok (.if_icmp .ge 56, 3) := by decide +kernel
theorem dX0_lampsOn_29 : decode cX0_lampsOn 29 = .ok (.aload_n 0, 1) := by decide +kernel
theorem dX0_lampsOn_30 : decode cX0_lampsOn 30 = .ok (.iload 5, 2) := by decide +kernel
theorem dX0_lampsOn_32 : decode cX0_lampsOn 32 = .ok (.iconst 4, 1) := by decide +kernel
theorem dX0_lampsOn_33 : decode cX0_lampsOn 33 = .ok (.invokevirtual 39, 3) := by decide +kernel
theorem dX0_lampsOn_36 : decode cX0_lampsOn 36 = .ok (.iconst 1, 1) := by decide +kernel
theorem dX0_lampsOn_37 : decode cX0_lampsOn 37 = .ok (.if_icmp .ne 39, 3) := by decide +kernel
theorem dX0_lampsOn_40 : decode cX0_lampsOn 40 = .ok (.aload_n 0, 1) := by decide +kernel
theorem dX0_lampsOn_41 : decode cX0_lampsOn 41 = .ok (.iload 5, 2) := by decide +kernel
theorem dX0_lampsOn_43 : decode cX0_lampsOn 43 = .ok (.iconst 1, 1) := by decide +kernel
theorem dX0_lampsOn_44 : decode cX0_lampsOn 44 = .ok (.invokevirtual 39, 3) := by decide +kernel
theorem dX0_lampsOn_47 : decode cX0_lampsOn 47 = .ok (.iload_n 2, 1) := by decide +kernel
theorem dX0_lampsOn_48 : decode cX0_lampsOn 48 = .ok (.if_icmp .ne 28, 3) := by decide +kernel
theorem dX0_lampsOn_51 : decode cX0_lampsOn 51 = .ok (.aload_n 0, 1) := by decide +kernel
theorem dX0_lampsOn_52 : decode cX0_lampsOn 52 = .ok (.iload 5, 2) := by decide +kernel
theorem dX0_lampsOn_54 : decode cX0_lampsOn 54 = .ok (.iconst 2, 1) := by decide +kernel
theorem dX0_lampsOn_55 : decode cX0_lampsOn 55 = .ok (.invokevirtual 39, 3) := by decide +kernel
theorem dX0_lampsOn_58 : decode cX0_lampsOn 58 = .ok (.iload_n 3, 1) := by decide +kernel
theorem dX0_lampsOn_59 : decode cX0_lampsOn 59 = .ok (.isub, 1) := by decide +kernel
theorem dX0_lampsOn_60 : decode cX0_lampsOn 60 = .ok (.invokestatic 62, 3) := by decide +kernel
theorem dX0_lampsOn_63 : decode cX0_lampsOn 63 = .ok (.iconst 3, 1) := by decide +kernel
theorem dX0_lampsOn_64 : decode cX0_lampsOn 64 = .ok (.if_icmp .gt 12, 3) := by decide +kernel
theorem dX0_lampsOn_67 : decode cX0_lampsOn 67 = .ok (.iload 4, 2) := by decide +kernel
theorem dX0_lampsOn_69 : decode cX0_lampsOn 69 = .ok (.iconst 1, 1) := by decide +kernel
theorem dX0_lampsOn_70 : decode cX0_lampsOn 70 = .ok (.iload 5, 2) := by decide +kernel
theorem dX0_lampsOn_72 : decode cX0_lampsOn 72 = .ok (.ishl, 1) := by decide +kernel
theorem dX0_lampsOn_73 : decode cX0_lampsOn 73 = .ok (.ior, 1) := by decide +kernel
theorem dX0_lampsOn_74 : decode cX0_lampsOn 74 = .ok (.istore 4, 2) := by decide +kernel
theorem dX0_lampsOn_76 : decode cX0_lampsOn 76 = .ok (.iinc 5 1, 3) := by decide +kernel
theorem dX0_lampsOn_79 : decode cX0_lampsOn 79 = .ok (.goto (-59), 3) := by decide +kernel
theorem dX0_lampsOn_82 : decode cX0_lampsOn 82 = .ok (.iload 4, 2) := by decide +kernel
theorem dX0_lampsOn_84 : decode cX0_lampsOn 84 = .ok (.ireturn, 1) := by decide +kernel
theorem dX0_isSeenByAnother_0 : decode cX0_isSeenByAnother 0 = .ok (.aload_n 0, 1) := by decide +kernel
theorem dX0_isSeenByAnother_1 : decode cX0_isSeenByAnother 1 = .ok (.iload_n 1, 1) := by decide +kernel
theorem dX0_isSeenByAnother_2 : decode cX0_isSeenByAnother 2 = .ok (.invokevirtual 50, 3) := by decide +kernel
theorem dX0_isSeenByAnother_5 : decode cX0_isSeenByAnother 5 = .ok (.iconst 1, 1) := by decide +kernel
theorem dX0_isSeenByAnother_6 : decode cX0_isSeenByAnother 6 = .ok (.iload_n 1, 1) := by decide +kernel
theorem dX0_isSeenByAnother_7 : decode cX0_isSeenByAnother 7 = .ok (.ishl, 1) := by decide +kernel
theorem dX0_isSeenByAnother_8 : decode cX0_isSeenByAnother 8 = .ok (.iconst (-1), 1) := by decide +kernel
theorem dX0_isSeenByAnother_9 : decode cX0_isSeenByAnother 9 = .ok (.ixor, 1) := by decide +kernel
theorem dX0_isSeenByAnother_10 : decode cX0_isSeenByAnother 10 = .ok (.iand, 1) := by decide +kernel
theorem dX0_isSeenByAnother_11 : decode cX0_isSeenByAnother 11 = .ok (.ifCond .eq 7, 3) := by decide +kernel
theorem dX0_isSeenByAnother_14 : decode cX0_isSeenByAnother 14 = .ok (.iconst 1, 1) := by decide +kernel
theorem dX0_isSeenByAnother_15 : decode cX0_isSeenByAnother 15 = .ok (.goto 4, 3) := by decide +kernel
theorem dX0_isSeenByAnother_18 : decode cX0_isSeenByAnother 18 = .ok (.iconst 0, 1) := by decide +kernel
theorem dX0_isSeenByAnother_19 : decode cX0_isSeenByAnother 19 = .ok (.ireturn, 1) := by decide +kernel
theorem dX0_isContent_0 : decode cX0_isContent 0 = .ok (.aload_n 0, 1) := by decide +kernel
theorem dX0_isContent_1 : decode cX0_isContent 1 = .ok (.iload_n 1, 1) := by decide +kernel
theorem dX0_isContent_2 : decode cX0_isContent 2 = .ok (.bipush 6, 2) := by decide +kernel
theorem dX0_isContent_4 : decode cX0_isContent 4 = .ok (.invokevirtual 39, 3) := by decide +kernel
theorem dX0_isContent_7 : decode cX0_isContent 7 = .ok (.istore_n 2, 1) := by decide +kernel
theorem dX0_isContent_8 : decode cX0_isContent 8 = .ok (.aload_n 0, 1) := by decide +kernel
theorem dX0_isContent_9 : decode cX0_isContent 9 = .ok (.iload_n 2, 1) := by decide +kernel
theorem dX0_isContent_10 : decode cX0_isContent 10 = .ok (.invokevirtual 67, 3) := by decide +kernel
theorem dX0_isContent_13 : decode cX0_isContent 13 = .ok (.ifCond .ne 23, 3) := by decide +kernel
theorem dX0_isContent_16 : decode cX0_isContent 16 = .ok (.iload_n 2, 1) := by decide +kernel
theorem dX0_isContent_17 : decode cX0_isContent 17 = .ok (.iload_n 1, 1) := by decide +kernel
theorem dX0_isContent_18 : decode cX0_isContent 18 = .ok (.if_icmp .eq 18, 3) := by decide +kernel
theorem dX0_isContent_21 : decode cX0_isContent 21 = .ok (.aload_n 0, 1) := by decide +kernel
theorem dX0_isContent_22 : decode cX0_isContent 22 = .ok (.iload_n 2, 1) := by decide +kernel
theorem dX0_isContent_23 : decode cX0_isContent 23 = .ok (.iconst 1, 1) := by decide +kernel
theorem dX0_isContent_24 : decode cX0_isContent 24 = .ok (.invokevirtual 39, 3) := by decide +kernel
theorem dX0_isContent_27 : decode cX0_isContent 27 = .ok (.aload_n 0, 1) := by decide +kernel
theorem dX0_isContent_28 : decode cX0_isContent 28 = .ok (.iload_n 1, 1) := by decide +kernel
theorem dX0_isContent_29 : decode cX0_isContent 29 = .ok (.iconst 1, 1) := by decide +kernel
theorem dX0_isContent_30 : decode cX0_isContent 30 = .ok (.invokevirtual 39, 3) := by decide +kernel
theorem dX0_isContent_33 : decode cX0_isContent 33 = .ok (.if_icmp .eq 7, 3) := by decide +kernel
theorem dX0_isContent_36 : decode cX0_isContent 36 = .ok (.iconst 1, 1) := by decide +kernel
theorem dX0_isContent_37 : decode cX0_isContent 37 = .ok (.goto 4, 3) := by decide +kernel
theorem dX0_isContent_40 : decode cX0_isContent 40 = .ok (.iconst 0, 1) := by decide +kernel
theorem dX0_isContent_41 : decode cX0_isContent 41 = .ok (.istore_n 3, 1) := by decide +kernel
theorem dX0_isContent_42 : decode cX0_isContent 42 = .ok (.aload_n 0, 1) := by decide +kernel
theorem dX0_isContent_43 : decode cX0_isContent 43 = .ok (.iload_n 2, 1) := by decide +kernel
theorem dX0_isContent_44 : decode cX0_isContent 44 = .ok (.iconst 2, 1) := by decide +kernel
theorem dX0_isContent_45 : decode cX0_isContent 45 = .ok (.invokevirtual 39, 3) := by decide +kernel
theorem dX0_isContent_48 : decode cX0_isContent 48 = .ok (.aload_n 0, 1) := by decide +kernel
theorem dX0_isContent_49 : decode cX0_isContent 49 = .ok (.iload_n 1, 1) := by decide +kernel
theorem dX0_isContent_50 : decode cX0_isContent 50 = .ok (.iconst 2, 1) := by decide +kernel
theorem dX0_isContent_51 : decode cX0_isContent 51 = .ok (.invokevirtual 39, 3) := by decide +kernel
theorem dX0_isContent_54 : decode cX0_isContent 54 = .ok (.isub, 1) := by decide +kernel
theorem dX0_isContent_55 : decode cX0_isContent 55 = .ok (.invokestatic 62, 3) := by decide +kernel
theorem dX0_isContent_58 : decode cX0_isContent 58 = .ok (.istore 4, 2) := by decide +kernel
theorem dX0_isContent_60 : decode cX0_isContent 60 = .ok (.aload_n 0, 1) := by decide +kernel
theorem dX0_isContent_61 : decode cX0_isContent 61 = .ok (.iload_n 1, 1) := by decide +kernel
theorem dX0_isContent_62 : decode cX0_isContent 62 = .ok (.iconst 5, 1) := by decide +kernel
theorem dX0_isContent_63 : decode cX0_isContent 63 = .ok (.invokevirtual 39, 3) := by decide +kernel
theorem dX0_isContent_66 : decode cX0_isContent 66 = .ok (.tableswitch 95 0 3 #[30, 47, 63, 80], 30) := by decide +kernel
theorem dX0_isContent_96 : decode cX0_isContent 96 = .ok (.aload_n 0, 1) := by decide +kernel
theorem dX0_isContent_97 : decode cX0_isContent 97 = .ok (.iload_n 1, 1) := by decide +kernel
theorem dX0_isContent_98 : decode cX0_isContent 98 = .ok (.iconst 3, 1) := by decide +kernel
theorem dX0_isContent_99 : decode cX0_isContent 99 = .ok (.invokevirtual 39, 3) := by decide +kernel
theorem dX0_isContent_102 : decode cX0_isContent 102 = .ok (.bipush 10, 2) := by decide +kernel
theorem dX0_isContent_104 : decode cX0_isContent 104 = .ok (.if_icmp .gt 7, 3) := by decide +kernel
theorem dX0_isContent_107 : decode cX0_isContent 107 = .ok (.iconst 1, 1) := by decide +kernel
theorem dX0_isContent_108 : decode cX0_isContent 108 = .ok (.goto 4, 3) := by decide +kernel
theorem dX0_isContent_111 : decode cX0_isContent 111 = .ok (.iconst 0, 1) := by decide +kernel
theorem dX0_isContent_112 : decode cX0_isContent 112 = .ok (.ireturn, 1) := by decide +kernel
theorem dX0_isContent_113 : decode cX0_isContent 113 = .ok (.iload_n 3, 1) := by decide +kernel
theorem dX0_isContent_114 : decode cX0_isContent 114 = .ok (.ifCond .ne 9, 3) := by decide +kernel
theorem dX0_isContent_117 : decode cX0_isContent 117 = .ok (.iload 4, 2) := by decide +kernel
theorem dX0_isContent_119 : decode cX0_isContent 119 = .ok (.iconst 1, 1) := by decide +kernel
theorem dX0_isContent_120 : decode cX0_isContent 120 = .ok (.if_icmp .gt 7, 3) := by decide +kernel
theorem dX0_isContent_123 : decode cX0_isContent 123 = .ok (.iconst 1, 1) := by decide +kernel
theorem dX0_isContent_124 : decode cX0_isContent 124 = .ok (.goto 4, 3) := by decide +kernel
theorem dX0_isContent_127 : decode cX0_isContent 127 = .ok (.iconst 0, 1) := by decide +kernel
theorem dX0_isContent_128 : decode cX0_isContent 128 = .ok (.ireturn, 1) := by decide +kernel
theorem dX0_isContent_129 : decode cX0_isContent 129 = .ok (.iload_n 3, 1) := by decide +kernel
theorem dX0_isContent_130 : decode cX0_isContent 130 = .ok (.ifCond .ne 10, 3) := by decide +kernel
theorem dX0_isContent_133 : decode cX0_isContent 133 = .ok (.iload 4, 2) := by decide +kernel
theorem dX0_isContent_135 : decode cX0_isContent 135 = .ok (.bipush 10, 2) := by decide +kernel
theorem dX0_isContent_137 : decode cX0_isContent 137 = .ok (.if_icmp .lt 7, 3) := by decide +kernel
theorem dX0_isContent_140 : decode cX0_isContent 140 = .ok (.iconst 1, 1) := by decide +kernel
theorem dX0_isContent_141 : decode cX0_isContent 141 = .ok (.goto 4, 3) := by decide +kernel
theorem dX0_isContent_144 : decode cX0_isContent 144 = .ok (.iconst 0, 1) := by decide +kernel
theorem dX0_isContent_145 : decode cX0_isContent 145 = .ok (.ireturn, 1) := by decide +kernel
theorem dX0_isContent_146 : decode cX0_isContent 146 = .ok (.aload_n 0, 1) := by decide +kernel
theorem dX0_isContent_147 : decode cX0_isContent 147 = .ok (.iload_n 1, 1) := by decide +kernel
theorem dX0_isContent_148 : decode cX0_isContent 148 = .ok (.iconst 4, 1) := by decide +kernel
theorem dX0_isContent_149 : decode cX0_isContent 149 = .ok (.invokevirtual 39, 3) := by decide +kernel
theorem dX0_isContent_152 : decode cX0_isContent 152 = .ok (.ifCond .ne 7, 3) := by decide +kernel
theorem dX0_isContent_155 : decode cX0_isContent 155 = .ok (.iconst 1, 1) := by decide +kernel
theorem dX0_isContent_156 : decode cX0_isContent 156 = .ok (.goto 4, 3) := by decide +kernel
theorem dX0_isContent_159 : decode cX0_isContent 159 = .ok (.iconst 0, 1) := by decide +kernel
theorem dX0_isContent_160 : decode cX0_isContent 160 = .ok (.ireturn, 1) := by decide +kernel
theorem dX0_isContent_161 : decode cX0_isContent 161 = .ok (.aload_n 0, 1) := by decide +kernel
theorem dX0_isContent_162 : decode cX0_isContent 162 = .ok (.iload_n 1, 1) := by decide +kernel
theorem dX0_isContent_163 : decode cX0_isContent 163 = .ok (.iconst 4, 1) := by decide +kernel
theorem dX0_isContent_164 : decode cX0_isContent 164 = .ok (.invokevirtual 39, 3) := by decide +kernel
theorem dX0_isContent_167 : decode cX0_isContent 167 = .ok (.iconst 1, 1) := by decide +kernel
theorem dX0_isContent_168 : decode cX0_isContent 168 = .ok (.if_icmp .ne 7, 3) := by decide +kernel
theorem dX0_isContent_171 : decode cX0_isContent 171 = .ok (.iconst 1, 1) := by decide +kernel
theorem dX0_isContent_172 : decode cX0_isContent 172 = .ok (.goto 4, 3) := by decide +kernel
theorem dX0_isContent_175 : decode cX0_isContent 175 = .ok (.iconst 0, 1) := by decide +kernel
theorem dX0_isContent_176 : decode cX0_isContent 176 = .ok (.ireturn, 1) := by decide +kernel
theorem dX0_rubs_0 : decode cX0_rubs 0 = .ok (.aload_n 0, 1) := by decide +kernel
theorem dX0_rubs_1 : decode cX0_rubs 1 = .ok (.invokevirtual 70, 3) := by decide +kernel
theorem dX0_rubs_4 : decode cX0_rubs 4 = .ok (.ifCond .eq 7, 3) := by decide +kernel
theorem dX0_rubs_7 : decode cX0_rubs 7 = .ok (.iconst 2, 1) := by decide +kernel
theorem dX0_rubs_8 : decode cX0_rubs 8 = .ok (.goto 4, 3) := by decide +kernel
theorem dX0_rubs_11 : decode cX0_rubs 11 = .ok (.iconst 4, 1) := by decide +kernel
theorem dX0_rubs_12 : decode cX0_rubs 12 = .ok (.istore_n 2, 1) := by decide +kernel
theorem dX0_rubs_13 : decode cX0_rubs 13 = .ok (.iload_n 2, 1) := by decide +kernel
theorem dX0_rubs_14 : decode cX0_rubs 14 = .ok (.aload_n 0, 1) := by decide +kernel
theorem dX0_rubs_15 : decode cX0_rubs 15 = .ok (.iload_n 1, 1) := by decide +kernel
theorem dX0_rubs_16 : decode cX0_rubs 16 = .ok (.iconst 3, 1) := by decide +kernel
theorem dX0_rubs_17 : decode cX0_rubs 17 = .ok (.invokevirtual 39, 3) := by decide +kernel
theorem dX0_rubs_20 : decode cX0_rubs 20 = .ok (.bipush 20, 2) := by decide +kernel
theorem dX0_rubs_22 : decode cX0_rubs 22 = .ok (.idiv, 1) := by decide +kernel
theorem dX0_rubs_23 : decode cX0_rubs 23 = .ok (.iadd, 1) := by decide +kernel
theorem dX0_rubs_24 : decode cX0_rubs 24 = .ok (.istore_n 3, 1) := by decide +kernel
theorem dX0_rubs_25 : decode cX0_rubs 25 = .ok (.aload_n 0, 1) := by decide +kernel
theorem dX0_rubs_26 : decode cX0_rubs 26 = .ok (.iload_n 1, 1) := by decide +kernel
theorem dX0_rubs_27 : decode cX0_rubs 27 = .ok (.iconst 0, 1) := by decide +kernel
theorem dX0_rubs_28 : decode cX0_rubs 28 = .ok (.invokevirtual 39, 3) := by decide +kernel
theorem dX0_rubs_31 : decode cX0_rubs 31 = .ok (.tableswitch 71 1 5 #[33, 71, 35, 37, 52], 33) := by decide +kernel
theorem dX0_rubs_64 : decode cX0_rubs 64 = .ok (.iload_n 3, 1) := by decide +kernel
theorem dX0_rubs_65 : decode cX0_rubs 65 = .ok (.ireturn, 1) := by decide +kernel
theorem dX0_rubs_66 : decode cX0_rubs 66 = .ok (.iconst 0, 1) := by decide +kernel
theorem dX0_rubs_67 : decode cX0_rubs 67 = .ok (.ireturn, 1) := by decide +kernel
theorem dX0_rubs_68 : decode cX0_rubs 68 = .ok (.aload_n 0, 1) := by decide +kernel
theorem dX0_rubs_69 : decode cX0_rubs 69 = .ok (.invokevirtual 70, 3) := by decide +kernel
theorem dX0_rubs_72 : decode cX0_rubs 72 = .ok (.ifCond .eq 7, 3) := by decide +kernel
theorem dX0_rubs_75 : decode cX0_rubs 75 = .ok (.iload_n 3, 1) := by decide +kernel
theorem dX0_rubs_76 : decode cX0_rubs 76 = .ok (.goto 6, 3) := by decide +kernel
theorem dX0_rubs_79 : decode cX0_rubs 79 = .ok (.iconst 2, 1) := by decide +kernel
theorem dX0_rubs_80 : decode cX0_rubs 80 = .ok (.iload_n 3, 1) := by decide +kernel
theorem dX0_rubs_81 : decode cX0_rubs 81 = .ok (.imul, 1) := by decide +kernel
theorem dX0_rubs_82 : decode cX0_rubs 82 = .ok (.ireturn, 1) := by decide +kernel
theorem dX0_rubs_83 : decode cX0_rubs 83 = .ok (.iload_n 2, 1) := by decide +kernel
theorem dX0_rubs_84 : decode cX0_rubs 84 = .ok (.aload_n 0, 1) := by decide +kernel
theorem dX0_rubs_85 : decode cX0_rubs 85 = .ok (.iconst 1, 1) := by decide +kernel
theorem dX0_rubs_86 : decode cX0_rubs 86 = .ok (.aload_n 0, 1) := by decide +kernel
theorem dX0_rubs_87 : decode cX0_rubs 87 = .ok (.iload_n 1, 1) := by decide +kernel
theorem dX0_rubs_88 : decode cX0_rubs 88 = .ok (.iconst 1, 1) := by decide +kernel
theorem dX0_rubs_89 : decode cX0_rubs 89 = .ok (.invokevirtual 39, 3) := by decide +kernel
theorem dX0_rubs_92 : decode cX0_rubs 92 = .ok (.invokevirtual 74, 3) := by decide +kernel
theorem dX0_rubs_95 : decode cX0_rubs 95 = .ok (.invokestatic 57, 3) := by decide +kernel
theorem dX0_rubs_98 : decode cX0_rubs 98 = .ok (.iadd, 1) := by decide +kernel
theorem dX0_rubs_99 : decode cX0_rubs 99 = .ok (.iconst 1, 1) := by decide +kernel
theorem dX0_rubs_100 : decode cX0_rubs 100 = .ok (.isub, 1) := by decide +kernel
theorem dX0_rubs_101 : decode cX0_rubs 101 = .ok (.ireturn, 1) := by decide +kernel
theorem dX0_rubs_102 : decode cX0_rubs 102 = .ok (.iload_n 2, 1) := by decide +kernel
theorem dX0_rubs_103 : decode cX0_rubs 103 = .ok (.ireturn, 1) := by decide +kernel
theorem dX0_isWaiting_0 : decode cX0_isWaiting 0 = .ok (.aload_n 0, 1) := by decide +kernel
theorem dX0_isWaiting_1 : decode cX0_isWaiting 1 = .ok (.iload_n 1, 1) := by decide +kernel
theorem dX0_isWaiting_2 : decode cX0_isWaiting 2 = .ok (.iconst 0, 1) := by decide +kernel
theorem dX0_isWaiting_3 : decode cX0_isWaiting 3 = .ok (.invokevirtual 39, 3) := by decide +kernel
theorem dX0_isWaiting_6 : decode cX0_isWaiting 6 = .ok (.tableswitch 99 1 5 #[34, 40, 53, 55, 78], 34) := by decide +kernel
theorem dX0_isWaiting_40 : decode cX0_isWaiting 40 = .ok (.aload_n 0, 1) := by decide +kernel
theorem dX0_isWaiting_41 : decode cX0_isWaiting 41 = .ok (.iload_n 1, 1) := by decide +kernel
theorem dX0_isWaiting_42 : decode cX0_isWaiting 42 = .ok (.invokevirtual 77, 3) := by decide +kernel
theorem dX0_isWaiting_45 : decode cX0_isWaiting 45 = .ok (.ireturn, 1) := by decide +kernel
theorem dX0_isWaiting_46 : decode cX0_isWaiting 46 = .ok (.aload_n 0, 1) := by decide +kernel
theorem dX0_isWaiting_47 : decode cX0_isWaiting 47 = .ok (.invokevirtual 35, 3) := by decide +kernel
theorem dX0_isWaiting_50 : decode cX0_isWaiting 50 = .ok (.ifCond .ne 7, 3) := by decide +kernel
theorem dX0_isWaiting_53 : decode cX0_isWaiting 53 = .ok (.iconst 1, 1) := by decide +kernel
theorem dX0_isWaiting_54 : decode cX0_isWaiting 54 = .ok (.goto 4, 3) := by decide +kernel
theorem dX0_isWaiting_57 : decode cX0_isWaiting 57 = .ok (.iconst 0, 1) := by decide +kernel
theorem dX0_isWaiting_58 : decode cX0_isWaiting 58 = .ok (.ireturn, 1) := by decide +kernel
theorem dX0_isWaiting_59 : decode cX0_isWaiting 59 = .ok (.iconst 1, 1) := by decide +kernel
theorem dX0_isWaiting_60 : decode cX0_isWaiting 60 = .ok (.ireturn, 1) := by decide +kernel
theorem dX0_isWaiting_61 : decode cX0_isWaiting 61 = .ok (.aload_n 0, 1) := by decide +kernel
theorem dX0_isWaiting_62 : decode cX0_isWaiting 62 = .ok (.invokevirtual 35, 3) := by decide +kernel
theorem dX0_isWaiting_65 : decode cX0_isWaiting 65 = .ok (.iconst 2, 1) := by decide +kernel
theorem dX0_isWaiting_66 : decode cX0_isWaiting 66 = .ok (.irem, 1) := by decide +kernel
theorem dX0_isWaiting_67 : decode cX0_isWaiting 67 = .ok (.ifCond .eq 15, 3) := by decide +kernel
theorem dX0_isWaiting_70 : decode cX0_isWaiting 70 = .ok (.aload_n 0, 1) := by decide +kernel
theorem dX0_isWaiting_71 : decode cX0_isWaiting 71 = .ok (.iload_n 1, 1) := by decide +kernel
theorem dX0_isWaiting_72 : decode cX0_isWaiting 72 = .ok (.invokevirtual 77, 3) := by decide +kernel
theorem dX0_isWaiting_75 : decode cX0_isWaiting 75 = .ok (.ifCond .eq 7, 3) := by decide +kernel
theorem dX0_isWaiting_78 : decode cX0_isWaiting 78 = .ok (.iconst 1, 1) := by decide +kernel
theorem dX0_isWaiting_79 : decode cX0_isWaiting 79 = .ok (.goto 4, 3) := by decide +kernel
theorem dX0_isWaiting_82 : decode cX0_isWaiting 82 = .ok (.iconst 0, 1) := by decide +kernel
theorem dX0_isWaiting_83 : decode cX0_isWaiting 83 = .ok (.ireturn, 1) := by decide +kernel
theorem dX0_isWaiting_84 : decode cX0_isWaiting 84 = .ok (.aload_n 0, 1) := by decide +kernel
theorem dX0_isWaiting_85 : decode cX0_isWaiting 85 = .ok (.invokevirtual 35, 3) := by decide +kernel
theorem dX0_isWaiting_88 : decode cX0_isWaiting 88 = .ok (.ifCond .eq 11, 3) := by decide +kernel
theorem dX0_isWaiting_91 : decode cX0_isWaiting 91 = .ok (.aload_n 0, 1) := by decide +kernel
theorem dX0_isWaiting_92 : decode cX0_isWaiting 92 = .ok (.iload_n 1, 1) := by decide +kernel
theorem dX0_isWaiting_93 : decode cX0_isWaiting 93 = .ok (.invokevirtual 80, 3) := by decide +kernel
theorem dX0_isWaiting_96 : decode cX0_isWaiting 96 = .ok (.ifCond .eq 7, 3) := by decide +kernel
theorem dX0_isWaiting_99 : decode cX0_isWaiting 99 = .ok (.iconst 1, 1) := by decide +kernel
theorem dX0_isWaiting_100 : decode cX0_isWaiting 100 = .ok (.goto 4, 3) := by decide +kernel
theorem dX0_isWaiting_103 : decode cX0_isWaiting 103 = .ok (.iconst 0, 1) := by decide +kernel
theorem dX0_isWaiting_104 : decode cX0_isWaiting 104 = .ok (.ireturn, 1) := by decide +kernel
theorem dX0_isWaiting_105 : decode cX0_isWaiting 105 = .ok (.iconst 0, 1) := by decide +kernel
theorem dX0_isWaiting_106 : decode cX0_isWaiting 106 = .ok (.ireturn, 1) := by decide +kernel
theorem dX0_isAnotherDiscontent_0 : decode cX0_isAnotherDiscontent 0 = .ok (.aload_n 0, 1) := by decide +kernel
theorem dX0_isAnotherDiscontent_1 : decode cX0_isAnotherDiscontent 1 = .ok (.iload_n 1, 1) := by decide +kernel
theorem dX0_isAnotherDiscontent_2 : decode cX0_isAnotherDiscontent 2 = .ok (.iconst 1, 1) := by decide +kernel
theorem dX0_isAnotherDiscontent_3 : decode cX0_isAnotherDiscontent 3 = .ok (.invokevirtual 39, 3) := by decide +kernel
theorem dX0_isAnotherDiscontent_6 : decode cX0_isAnotherDiscontent 6 = .ok (.istore_n 2, 1) := by decide +kernel
theorem dX0_isAnotherDiscontent_7 : decode cX0_isAnotherDiscontent 7 = .ok (.iconst 0, 1) := by decide +kernel
theorem dX0_isAnotherDiscontent_8 : decode cX0_isAnotherDiscontent 8 = .ok (.istore_n 3, 1) := by decide +kernel
theorem dX0_isAnotherDiscontent_9 : decode cX0_isAnotherDiscontent 9 = .ok (.iload_n 3, 1) := by decide +kernel
theorem dX0_isAnotherDiscontent_10 : decode cX0_isAnotherDiscontent 10 = .ok (.aload_n 0, 1) := by decide +kernel
theorem dX0_isAnotherDiscontent_11 : decode cX0_isAnotherDiscontent 11 = .ok (.getfield 18, 3) := by decide +kernel
theorem dX0_isAnotherDiscontent_14 : decode cX0_isAnotherDiscontent 14 = .ok (.if_icmp .ge 34, 3) := by decide +kernel
theorem dX0_isAnotherDiscontent_17 : decode cX0_isAnotherDiscontent 17 = .ok (.iload_n 3, 1) := by decide +kernel
theorem dX0_isAnotherDiscontent_18 : decode cX0_isAnotherDiscontent 18 = .ok (.iload_n 1, 1) := by decide +kernel
theorem dX0_isAnotherDiscontent_19 : decode cX0_isAnotherDiscontent 19 = .ok (.if_icmp .eq 23, 3) := by decide +kernel
theorem dX0_isAnotherDiscontent_22 : decode cX0_isAnotherDiscontent 22 = .ok (.aload_n 0, 1) := by decide +kernel
theorem dX0_isAnotherDiscontent_23 : decode cX0_isAnotherDiscontent 23 = .ok (.iload_n 3, 1) := by decide +kernel
theorem dX0_isAnotherDiscontent_24 : decode cX0_isAnotherDiscontent 24 = .ok (.iconst 1, 1) := by decide +kernel
theorem dX0_isAnotherDiscontent_25 : decode cX0_isAnotherDiscontent 25 = .ok (.invokevirtual 39, 3) := by decide +kernel
theorem dX0_isAnotherDiscontent_28 : decode cX0_isAnotherDiscontent 28 = .ok (.iload_n 2, 1) := by decide +kernel
theorem dX0_isAnotherDiscontent_29 : decode cX0_isAnotherDiscontent 29 = .ok (.if_icmp .ne 13, 3) := by decide +kernel
theorem dX0_isAnotherDiscontent_32 : decode cX0_isAnotherDiscontent 32 = .ok (.aload_n 0, 1) := by decide +kernel
theorem dX0_isAnotherDiscontent_33 : decode cX0_isAnotherDiscontent 33 = .ok (.iload_n 3, 1) := by decide +kernel
theorem dX0_isAnotherDiscontent_34 : decode cX0_isAnotherDiscontent 34 = .ok (.invokevirtual 43, 3) := by decide +kernel
theorem dX0_isAnotherDiscontent_37 : decode cX0_isAnotherDiscontent 37 = .ok (.ifCond .ne 5, 3) := by decide +kernel
theorem dX0_isAnotherDiscontent_40 : decode cX0_isAnotherDiscontent 40 = .ok (.iconst 1, 1) := by decide +kernel
theorem dX0_isAnotherDiscontent_41 : decode cX0_isAnotherDiscontent 41 = .ok (.ireturn, 1) := by decide +kernel
theorem dX0_isAnotherDiscontent_42 : decode cX0_isAnotherDiscontent 42 = .ok (.iinc 3 1, 3) := by decide +kernel
theorem dX0_isAnotherDiscontent_45 : decode cX0_isAnotherDiscontent 45 = .ok (.goto (-36), 3) := by decide +kernel
theorem dX0_isAnotherDiscontent_48 : decode cX0_isAnotherDiscontent 48 = .ok (.iconst 0, 1) := by decide +kernel
theorem dX0_isAnotherDiscontent_49 : decode cX0_isAnotherDiscontent 49 = .ok (.ireturn, 1) := by decide +kernel
theorem dX0_pass_0 : decode cX0_pass 0 = .ok (.iconst 0, 1) := by decide +kernel
theorem dX0_pass_1 : decode cX0_pass 1 = .ok (.istore_n 2, 1) := by decide +kernel
theorem dX0_pass_2 : decode cX0_pass 2 = .ok (.iload_n 2, 1) := by decide +kernel
theorem dX0_pass_3 : decode cX0_pass 3 = .ok (.iload_n 1, 1) := by decide +kernel
theorem dX0_pass_4 : decode cX0_pass 4 = .ok (.if_icmp .ge 66, 3) := by decide +kernel
theorem dX0_pass_7 : decode cX0_pass 7 = .ok (.iconst 0, 1) := by decide +kernel
theorem dX0_pass_8 : decode cX0_pass 8 = .ok (.istore_n 3, 1) := by decide +kernel
theorem dX0_pass_9 : decode cX0_pass 9 = .ok (.iload_n 3, 1) := by decide +kernel
theorem dX0_pass_10 : decode cX0_pass 10 = .ok (.aload_n 0, 1) := by decide +kernel
theorem dX0_pass_11 : decode cX0_pass 11 = .ok (.getfield 18, 3) := by decide +kernel
theorem dX0_pass_14 : decode cX0_pass 14 = .ok (.if_icmp .ge 40, 3) := by decide +kernel
theorem dX0_pass_17 : decode cX0_pass 17 = .ok (.aload_n 0, 1) := by decide +kernel
theorem dX0_pass_18 : decode cX0_pass 18 = .ok (.iload_n 3, 1) := by decide +kernel
theorem dX0_pass_19 : decode cX0_pass 19 = .ok (.bipush 7, 2) := by decide +kernel
theorem dX0_pass_21 : decode cX0_pass 21 = .ok (.invokevirtual 39, 3) := by decide +kernel
theorem dX0_pass_24 : decode cX0_pass 24 = .ok (.ifCond .ne 24, 3) := by decide +kernel
theorem dX0_pass_27 : decode cX0_pass 27 = .ok (.aload_n 0, 1) := by decide +kernel
theorem dX0_pass_28 : decode cX0_pass 28 = .ok (.iload_n 3, 1) := by decide +kernel
theorem dX0_pass_29 : decode cX0_pass 29 = .ok (.invokevirtual 43, 3) := by decide +kernel
theorem dX0_pass_32 : decode cX0_pass 32 = .ok (.ifCond .ne 16, 3) := by decide +kernel
theorem dX0_pass_35 : decode cX0_pass 35 = .ok (.aload_n 0, 1) := by decide +kernel
theorem dX0_pass_36 : decode cX0_pass 36 = .ok (.iload_n 3, 1) := by decide +kernel
theorem dX0_pass_37 : decode cX0_pass 37 = .ok (.invokevirtual 47, 3) := by decide +kernel
theorem dX0_pass_40 : decode cX0_pass 40 = .ok (.ifCond .ne 8, 3) := by decide +kernel
theorem dX0_pass_43 : decode cX0_pass 43 = .ok (.aload_n 0, 1) := by decide +kernel
theorem dX0_pass_44 : decode cX0_pass 44 = .ok (.iload_n 3, 1) := by decide +kernel
theorem dX0_pass_45 : decode cX0_pass 45 = .ok (.invokevirtual 83, 3) := by decide +kernel
theorem dX0_pass_48 : decode cX0_pass 48 = .ok (.iinc 3 1, 3) := by decide +kernel
theorem dX0_pass_51 : decode cX0_pass 51 = .ok (.goto (-42), 3) := by decide +kernel
theorem dX0_pass_54 : decode cX0_pass 54 = .ok (.aload_n 0, 1) := by decide +kernel
theorem dX0_pass_55 : decode cX0_pass 55 = .ok (.dup, 1) := by decide +kernel
theorem dX0_pass_56 : decode cX0_pass 56 = .ok (.getfield 9, 3) := by decide +kernel
theorem dX0_pass_59 : decode cX0_pass 59 = .ok (.iconst 1, 1) := by decide +kernel
theorem dX0_pass_60 : decode cX0_pass 60 = .ok (.iadd, 1) := by decide +kernel
theorem dX0_pass_61 : decode cX0_pass 61 = .ok (.putfield 9, 3) := by decide +kernel
theorem dX0_pass_64 : decode cX0_pass 64 = .ok (.iinc 2 1, 3) := by decide +kernel
theorem dX0_pass_67 : decode cX0_pass 67 = .ok (.goto (-65), 3) := by decide +kernel
theorem dX0_pass_70 : decode cX0_pass 70 = .ok (.return_, 1) := by decide +kernel
theorem dX0_haveAGo_0 : decode cX0_haveAGo 0 = .ok (.aload_n 0, 1) := by decide +kernel
theorem dX0_haveAGo_1 : decode cX0_haveAGo 1 = .ok (.iload_n 1, 1) := by decide +kernel
theorem dX0_haveAGo_2 : decode cX0_haveAGo 2 = .ok (.invokevirtual 87, 3) := by decide +kernel
theorem dX0_haveAGo_5 : decode cX0_haveAGo 5 = .ok (.istore_n 2, 1) := by decide +kernel
theorem dX0_haveAGo_6 : decode cX0_haveAGo 6 = .ok (.iload_n 2, 1) := by decide +kernel
theorem dX0_haveAGo_7 : decode cX0_haveAGo 7 = .ok (.ifCond .le 34, 3) := by decide +kernel
theorem dX0_haveAGo_10 : decode cX0_haveAGo 10 = .ok (.aload_n 0, 1) := by decide +kernel
theorem dX0_haveAGo_11 : decode cX0_haveAGo 11 = .ok (.iload_n 1, 1) := by decide +kernel
theorem dX0_haveAGo_12 : decode cX0_haveAGo 12 = .ok (.iload_n 2, 1) := by decide +kernel
theorem dX0_haveAGo_13 : decode cX0_haveAGo 13 = .ok (.invokevirtual 90, 3) := by decide +kernel
theorem dX0_haveAGo_16 : decode cX0_haveAGo 16 = .ok (.ifCond .eq 25, 3) := by decide +kernel
theorem dX0_haveAGo_19 : decode cX0_haveAGo 19 = .ok (.aload_n 0, 1) := by decide +kernel
theorem dX0_haveAGo_20 : decode cX0_haveAGo 20 = .ok (.iload_n 1, 1) := by decide +kernel
theorem dX0_haveAGo_21 : decode cX0_haveAGo 21 = .ok (.bipush 8, 2) := by decide +kernel
theorem dX0_haveAGo_23 : decode cX0_haveAGo 23 = .ok (.aload_n 0, 1) := by decide +kernel
theorem dX0_haveAGo_24 : decode cX0_haveAGo 24 = .ok (.iload_n 1, 1) := by decide +kernel
theorem dX0_haveAGo_25 : decode cX0_haveAGo 25 = .ok (.bipush 8, 2) := by decide +kernel
theorem dX0_haveAGo_27 : decode cX0_haveAGo 27 = .ok (.invokevirtual 39, 3) := by decide +kernel
theorem dX0_haveAGo_30 : decode cX0_haveAGo 30 = .ok (.iconst 1, 1) := by decide +kernel
theorem dX0_haveAGo_31 : decode cX0_haveAGo 31 = .ok (.iadd, 1) := by decide +kernel
theorem dX0_haveAGo_32 : decode cX0_haveAGo 32 = .ok (.sipush 9999, 3) := by decide +kernel
theorem dX0_haveAGo_35 : decode cX0_haveAGo 35 = .ok (.invokestatic 94, 3) := by decide +kernel
theorem dX0_haveAGo_38 : decode cX0_haveAGo 38 = .ok (.invokevirtual 31, 3) := by decide +kernel
theorem dX0_haveAGo_41 : decode cX0_haveAGo 41 = .ok (.return_, 1) := by decide +kernel
theorem dX0_isChangedBy_0 : decode cX0_isChangedBy 0 = .ok (.aload_n 0, 1) := by decide +kernel
theorem dX0_isChangedBy_1 : decode cX0_isChangedBy 1 = .ok (.iload_n 1, 1) := by decide +kernel
theorem dX0_isChangedBy_2 : decode cX0_isChangedBy 2 = .ok (.iconst 5, 1) := by decide +kernel
theorem dX0_isChangedBy_3 : decode cX0_isChangedBy 3 = .ok (.invokevirtual 39, 3) := by decide +kernel
theorem dX0_isChangedBy_6 : decode cX0_isChangedBy 6 = .ok (.tableswitch 83 0 3 #[30, 49, 62, 75], 30) := by decide +kernel
theorem dX0_isChangedBy_36 : decode cX0_isChangedBy 36 = .ok (.aload_n 0, 1) := by decide +kernel
theorem dX0_isChangedBy_37 : decode cX0_isChangedBy 37 = .ok (.iload_n 1, 1) := by decide +kernel
theorem dX0_isChangedBy_38 : decode cX0_isChangedBy 38 = .ok (.iconst 3, 1) := by decide +kernel
theorem dX0_isChangedBy_39 : decode cX0_isChangedBy 39 = .ok (.iconst 0, 1) := by decide +kernel
theorem dX0_isChangedBy_40 : decode cX0_isChangedBy 40 = .ok (.aload_n 0, 1) := by decide +kernel
theorem dX0_isChangedBy_41 : decode cX0_isChangedBy 41 = .ok (.iload_n 1, 1) := by decide +kernel
theorem dX0_isChangedBy_42 : decode cX0_isChangedBy 42 = .ok (.iconst 3, 1) := by decide +kernel
theorem dX0_isChangedBy_43 : decode cX0_isChangedBy 43 = .ok (.invokevirtual 39, 3) := by decide +kernel
theorem dX0_isChangedBy_46 : decode cX0_isChangedBy 46 = .ok (.iload_n 2, 1) := by decide +kernel
theorem dX0_isChangedBy_47 : decode cX0_isChangedBy 47 = .ok (.isub, 1) := by decide +kernel
theorem dX0_isChangedBy_48 : decode cX0_isChangedBy 48 = .ok (.invokestatic 97, 3) := by decide +kernel
theorem dX0_isChangedBy_51 : decode cX0_isChangedBy 51 = .ok (.invokevirtual 100, 3) := by decide +kernel
theorem dX0_isChangedBy_54 : decode cX0_isChangedBy 54 = .ok (.ireturn, 1) := by decide +kernel
theorem dX0_isChangedBy_55 : decode cX0_isChangedBy 55 = .ok (.aload_n 0, 1) := by decide +kernel
theorem dX0_isChangedBy_56 : decode cX0_isChangedBy 56 = .ok (.iload_n 1, 1) := by decide +kernel
theorem dX0_isChangedBy_57 : decode cX0_isChangedBy 57 = .ok (.iconst 2, 1) := by decide +kernel
theorem dX0_isChangedBy_58 : decode cX0_isChangedBy 58 = .ok (.aload_n 0, 1) := by decide +kernel
theorem dX0_isChangedBy_59 : decode cX0_isChangedBy 59 = .ok (.iload_n 1, 1) := by decide +kernel
theorem dX0_isChangedBy_60 : decode cX0_isChangedBy 60 = .ok (.iload_n 2, 1) := by decide +kernel
theorem dX0_isChangedBy_61 : decode cX0_isChangedBy 61 = .ok (.invokevirtual 104, 3) := by decide +kernel
theorem dX0_isChangedBy_64 : decode cX0_isChangedBy 64 = .ok (.invokevirtual 100, 3) := by decide +kernel
theorem dX0_isChangedBy_67 : decode cX0_isChangedBy 67 = .ok (.ireturn, 1) := by decide +kernel
theorem dX0_isChangedBy_68 : decode cX0_isChangedBy 68 = .ok (.aload_n 0, 1) := by decide +kernel
theorem dX0_isChangedBy_69 : decode cX0_isChangedBy 69 = .ok (.iload_n 1, 1) := by decide +kernel
theorem dX0_isChangedBy_70 : decode cX0_isChangedBy 70 = .ok (.iconst 2, 1) := by decide +kernel
theorem dX0_isChangedBy_71 : decode cX0_isChangedBy 71 = .ok (.aload_n 0, 1) := by decide +kernel
theorem dX0_isChangedBy_72 : decode cX0_isChangedBy 72 = .ok (.iload_n 1, 1) := by decide +kernel
theorem dX0_isChangedBy_73 : decode cX0_isChangedBy 73 = .ok (.iload_n 2, 1) := by decide +kernel
theorem dX0_isChangedBy_74 : decode cX0_isChangedBy 74 = .ok (.invokevirtual 107, 3) := by decide +kernel
theorem dX0_isChangedBy_77 : decode cX0_isChangedBy 77 = .ok (.invokevirtual 100, 3) := by decide +kernel
theorem dX0_isChangedBy_80 : decode cX0_isChangedBy 80 = .ok (.ireturn, 1) := by decide +kernel
theorem dX0_isChangedBy_81 : decode cX0_isChangedBy 81 = .ok (.aload_n 0, 1) := by decide +kernel
theorem dX0_isChangedBy_82 : decode cX0_isChangedBy 82 = .ok (.iload_n 1, 1) := by decide +kernel
theorem dX0_isChangedBy_83 : decode cX0_isChangedBy 83 = .ok (.iconst 4, 1) := by decide +kernel
theorem dX0_isChangedBy_84 : decode cX0_isChangedBy 84 = .ok (.iconst 0, 1) := by decide +kernel
theorem dX0_isChangedBy_85 : decode cX0_isChangedBy 85 = .ok (.invokevirtual 100, 3) := by decide +kernel
theorem dX0_isChangedBy_88 : decode cX0_isChangedBy 88 = .ok (.ireturn, 1) := by decide +kernel
theorem dX0_isChangedBy_89 : decode cX0_isChangedBy 89 = .ok (.aload_n 0, 1) := by decide +kernel
theorem dX0_isChangedBy_90 : decode cX0_isChangedBy 90 = .ok (.iload_n 1, 1) := by decide +kernel
theorem dX0_isChangedBy_91 : decode cX0_isChangedBy 91 = .ok (.iconst 4, 1) := by decide +kernel
theorem dX0_isChangedBy_92 : decode cX0_isChangedBy 92 = .ok (.iconst 1, 1) := by decide +kernel
theorem dX0_isChangedBy_93 : decode cX0_isChangedBy 93 = .ok (.invokevirtual 100, 3) := by decide +kernel
theorem dX0_isChangedBy_96 : decode cX0_isChangedBy 96 = .ok (.ireturn, 1) := by decide +kernel
theorem dX0_replace_0 : decode cX0_replace 0 = .ok (.aload_n 0, 1) := by decide +kernel
theorem dX0_replace_1 : decode cX0_replace 1 = .ok (.iload_n 1, 1) := by decide +kernel
theorem dX0_replace_2 : decode cX0_replace 2 = .ok (.iload_n 2, 1) := by decide +kernel
theorem dX0_replace_3 : decode cX0_replace 3 = .ok (.invokevirtual 39, 3) := by decide +kernel
theorem dX0_replace_6 : decode cX0_replace 6 = .ok (.iload_n 3, 1) := by decide +kernel
theorem dX0_replace_7 : decode cX0_replace 7 = .ok (.if_icmp .eq 7, 3) := by decide +kernel
theorem dX0_replace_10 : decode cX0_replace 10 = .ok (.iconst 1, 1) := by decide +kernel
theorem dX0_replace_11 : decode cX0_replace 11 = .ok (.goto 4, 3) := by decide +kernel
theorem dX0_replace_14 : decode cX0_replace 14 = .ok (.iconst 0, 1) := by decide +kernel
theorem dX0_replace_15 : decode cX0_replace 15 = .ok (.istore 4, 2) := by decide +kernel
theorem dX0_replace_17 : decode cX0_replace 17 = .ok (.aload_n 0, 1) := by decide +kernel
theorem dX0_replace_18 : decode cX0_replace 18 = .ok (.iload_n 1, 1) := by decide +kernel
theorem dX0_replace_19 : decode cX0_replace 19 = .ok (.iload_n 2, 1) := by decide +kernel
theorem dX0_replace_20 : decode cX0_replace 20 = .ok (.iload_n 3, 1) := by decide +kernel
theorem dX0_replace_21 : decode cX0_replace 21 = .ok (.invokevirtual 31, 3) := by decide +kernel
theorem dX0_replace_24 : decode cX0_replace 24 = .ok (.iload 4, 2) := by decide +kernel
theorem dX0_replace_26 : decode cX0_replace 26 = .ok (.ireturn, 1) := by decide +kernel
theorem dX0_nearer_0 : decode cX0_nearer 0 = .ok (.aload_n 0, 1) := by decide +kernel
theorem dX0_nearer_1 : decode cX0_nearer 1 = .ok (.iload_n 1, 1) := by decide +kernel
theorem dX0_nearer_2 : decode cX0_nearer 2 = .ok (.iconst 2, 1) := by decide +kernel
theorem dX0_nearer_3 : decode cX0_nearer 3 = .ok (.invokevirtual 39, 3) := by decide +kernel
theorem dX0_nearer_6 : decode cX0_nearer 6 = .ok (.istore_n 3, 1) := by decide +kernel
theorem dX0_nearer_7 : decode cX0_nearer 7 = .ok (.aload_n 0, 1) := by decide +kernel
theorem dX0_nearer_8 : decode cX0_nearer 8 = .ok (.aload_n 0, 1) := by decide +kernel
theorem dX0_nearer_9 : decode cX0_nearer 9 = .ok (.iload_n 1, 1) := by decide +kernel
theorem dX0_nearer_10 : decode cX0_nearer 10 = .ok (.bipush 6, 2) := by decide +kernel
theorem dX0_nearer_12 : decode cX0_nearer 12 = .ok (.invokevirtual 39, 3) := by decide +kernel
theorem dX0_nearer_15 : decode cX0_nearer 15 = .ok (.iconst 2, 1) := by decide +kernel
theorem dX0_nearer_16 : decode cX0_nearer 16 = .ok (.invokevirtual 39, 3) := by decide +kernel
theorem dX0_nearer_19 : decode cX0_nearer 19 = .ok (.istore 4, 2) := by decide +kernel
theorem dX0_nearer_21 : decode cX0_nearer 21 = .ok (.iload_n 3, 1) := by decide +kernel
theorem dX0_nearer_22 : decode cX0_nearer 22 = .ok (.iload 4, 2) := by decide +kernel
theorem dX0_nearer_24 : decode cX0_nearer 24 = .ok (.if_icmp .ge 16, 3) := by decide +kernel
theorem dX0_nearer_27 : decode cX0_nearer 27 = .ok (.iload_n 3, 1) := by decide +kernel
theorem dX0_nearer_28 : decode cX0_nearer 28 = .ok (.iload_n 2, 1) := by decide +kernel
theorem dX0_nearer_29 : decode cX0_nearer 29 = .ok (.iadd, 1) := by decide +kernel
theorem dX0_nearer_30 : decode cX0_nearer 30 = .ok (.iload 4, 2) := by decide +kernel
theorem dX0_nearer_32 : decode cX0_nearer 32 = .ok (.iconst 1, 1) := by decide +kernel
theorem dX0_nearer_33 : decode cX0_nearer 33 = .ok (.isub, 1) := by decide +kernel
theorem dX0_nearer_34 : decode cX0_nearer 34 = .ok (.invokestatic 94, 3) := by decide +kernel
theorem dX0_nearer_37 : decode cX0_nearer 37 = .ok (.goto 13, 3) := by decide +kernel
theorem dX0_nearer_40 : decode cX0_nearer 40 = .ok (.iload_n 3, 1) := by decide +kernel
theorem dX0_nearer_41 : decode cX0_nearer 41 = .ok (.iload_n 2, 1) := by decide +kernel
theorem dX0_nearer_42 : decode cX0_nearer 42 = .ok (.isub, 1) := by decide +kernel
theorem dX0_nearer_43 : decode cX0_nearer 43 = .ok (.iload 4, 2) := by decide +kernel
theorem dX0_nearer_45 : decode cX0_nearer 45 = .ok (.iconst 1, 1) := by decide +kernel
theorem dX0_nearer_46 : decode cX0_nearer 46 = .ok (.iadd, 1) := by decide +kernel
theorem dX0_nearer_47 : decode cX0_nearer 47 = .ok (.invokestatic 97, 3) := by decide +kernel
theorem dX0_nearer_50 : decode cX0_nearer 50 = .ok (.ireturn, 1) := by decide +kernel
theorem dX0_farther_0 : decode cX0_farther 0 = .ok (.aload_n 0, 1) := by decide +kernel
theorem dX0_farther_1 : decode cX0_farther 1 = .ok (.iload_n 1, 1) := by decide +kernel
theorem dX0_farther_2 : decode cX0_farther 2 = .ok (.iconst 2, 1) := by decide +kernel
theorem dX0_farther_3 : decode cX0_farther 3 = .ok (.invokevirtual 39, 3) := by decide +kernel
theorem dX0_farther_6 : decode cX0_farther 6 = .ok (.istore_n 3, 1) := by decide +kernel
theorem dX0_farther_7 : decode cX0_farther 7 = .ok (.iload_n 3, 1) := by decide +kernel
theorem dX0_farther_8 : decode cX0_farther 8 = .ok (.aload_n 0, 1) := by decide +kernel
theorem dX0_farther_9 : decode cX0_farther 9 = .ok (.aload_n 0, 1) := by decide +kernel
theorem dX0_farther_10 : decode cX0_farther 10 = .ok (.iload_n 1, 1) := by decide +kernel
theorem dX0_farther_11 : decode cX0_farther 11 = .ok (.bipush 6, 2) := by decide +kernel
theorem dX0_farther_13 : decode cX0_farther 13 = .ok (.invokevirtual 39, 3) := by decide +kernel
theorem dX0_farther_16 : decode cX0_farther 16 = .ok (.iconst 2, 1) := by decide +kernel
theorem dX0_farther_17 : decode cX0_farther 17 = .ok (.invokevirtual 39, 3) := by decide +kernel
theorem dX0_farther_20 : decode cX0_farther 20 = .ok (.if_icmp .gt 13, 3) := by decide +kernel
theorem dX0_farther_23 : decode cX0_farther 23 = .ok (.iload_n 3, 1) := by decide +kernel
theorem dX0_farther_24 : decode cX0_farther 24 = .ok (.iload_n 2, 1) := by decide +kernel
theorem dX0_farther_25 : decode cX0_farther 25 = .ok (.isub, 1) := by decide +kernel
theorem dX0_farther_26 : decode cX0_farther 26 = .ok (.iconst 0, 1) := by decide +kernel
theorem dX0_farther_27 : decode cX0_farther 27 = .ok (.invokestatic 97, 3) := by decide +kernel
theorem dX0_farther_30 : decode cX0_farther 30 = .ok (.goto 11, 3) := by decide +kernel
theorem dX0_farther_33 : decode cX0_farther 33 = .ok (.iload_n 3, 1) := by decide +kernel
theorem dX0_farther_34 : decode cX0_farther 34 = .ok (.iload_n 2, 1) := by decide +kernel
theorem dX0_farther_35 : decode cX0_farther 35 = .ok (.iadd, 1) := by decide +kernel
theorem dX0_farther_36 : decode cX0_farther 36 = .ok (.bipush 19, 2) := by decide +kernel
theorem dX0_farther_38 : decode cX0_farther 38 = .ok (.invokestatic 94, 3) := by decide +kernel
theorem dX0_farther_41 : decode cX0_farther 41 = .ok (.ireturn, 1) := by decide +kernel
theorem dX1_init_0 : decode cX1_init 0 = .ok (.aload_n 0, 1) := by decide +kernel
theorem dX1_init_1 : decode cX1_init 1 = .ok (.invokespecial 3, 3) := by decide +kernel
theorem dX1_init_4 : decode cX1_init 4 = .ok (.aload_n 0, 1) := by decide +kernel
theorem dX1_init_5 : decode cX1_init 5 = .ok (.iconst 0, 1) := by decide +kernel
theorem dX1_init_6 : decode cX1_init 6 = .ok (.putfield 9, 3) := by decide +kernel
theorem dX1_init_9 : decode cX1_init 9 = .ok (.aload_n 0, 1) := by decide +kernel
theorem dX1_init_10 : decode cX1_init 10 = .ok (.iconst 0, 1) := by decide +kernel
theorem dX1_init_11 : decode cX1_init 11 = .ok (.putfield 15, 3) := by decide +kernel
theorem dX1_init_14 : decode cX1_init 14 = .ok (.aload_n 0, 1) := by decide +kernel
theorem dX1_init_15 : decode cX1_init 15 = .ok (.bipush 40, 2) := by decide +kernel
theorem dX1_init_17 : decode cX1_init 17 = .ok (.newarray .long, 2) := by decide +kernel
theorem dX1_init_19 : decode cX1_init 19 = .ok (.putfield 18, 3) := by decide +kernel
theorem dX1_init_22 : decode cX1_init 22 = .ok (.return_, 1) := by decide +kernel
theorem dX1_isMissing_0 : decode cX1_isMissing 0 = .ok (.aload_n 0, 1) := by decide +kernel
theorem dX1_isMissing_1 : decode cX1_isMissing 1 = .ok (.getfield 9, 3) := by decide +kernel
theorem dX1_isMissing_4 : decode cX1_isMissing 4 = .ok (.ifCond .ne 7, 3) := by decide +kernel
theorem dX1_isMissing_7 : decode cX1_isMissing 7 = .ok (.iconst 1, 1) := by decide +kernel
theorem dX1_isMissing_8 : decode cX1_isMissing 8 = .ok (.goto 4, 3) := by decide +kernel
theorem dX1_isMissing_11 : decode cX1_isMissing 11 = .ok (.iconst 0, 1) := by decide +kernel
theorem dX1_isMissing_12 : decode cX1_isMissing 12 = .ok (.ireturn, 1) := by decide +kernel
theorem dX1_lay_0 : decode cX1_lay 0 = .ok (.aload_n 0, 1) := by decide +kernel
theorem dX1_lay_1 : decode cX1_lay 1 = .ok (.iload_n 1, 1) := by decide +kernel
theorem dX1_lay_2 : decode cX1_lay 2 = .ok (.putfield 9, 3) := by decide +kernel
theorem dX1_lay_5 : decode cX1_lay 5 = .ok (.aload_n 0, 1) := by decide +kernel
theorem dX1_lay_6 : decode cX1_lay 6 = .ok (.iload_n 1, 1) := by decide +kernel
theorem dX1_lay_7 : decode cX1_lay 7 = .ok (.ifCond .ne 7, 3) := by decide +kernel
theorem dX1_lay_10 : decode cX1_lay 10 = .ok (.iconst 0, 1) := by decide +kernel
theorem dX1_lay_11 : decode cX1_lay 11 = .ok (.goto 4, 3) := by decide +kernel
theorem dX1_lay_14 : decode cX1_lay 14 = .ok (.iload_n 2, 1) := by decide +kernel
theorem dX1_lay_15 : decode cX1_lay 15 = .ok (.putfield 15, 3) := by decide +kernel
theorem dX1_lay_18 : decode cX1_lay 18 = .ok (.iconst 0, 1) := by decide +kernel
theorem dX1_lay_19 : decode cX1_lay 19 = .ok (.istore_n 3, 1) := by decide +kernel
theorem dX1_lay_20 : decode cX1_lay 20 = .ok (.iload_n 3, 1) := by decide +kernel
theorem dX1_lay_21 : decode cX1_lay 21 = .ok (.bipush 40, 2) := by decide +kernel
theorem dX1_lay_23 : decode cX1_lay 23 = .ok (.if_icmp .ge 16, 3) := by decide +kernel
theorem dX1_lay_26 : decode cX1_lay 26 = .ok (.aload_n 0, 1) := by decide +kernel
theorem dX1_lay_27 : decode cX1_lay 27 = .ok (.getfield 18, 3) := by decide +kernel
theorem dX1_lay_30 : decode cX1_lay 30 = .ok (.iload_n 3, 1) := by decide +kernel
theorem dX1_lay_31 : decode cX1_lay 31 = .ok (.lconst 0, 1) := by decide +kernel
theorem dX1_lay_32 : decode cX1_lay 32 = .ok (.lastore, 1) := by decide +kernel
theorem dX1_lay_33 : decode cX1_lay 33 = .ok (.iinc 3 1, 3) := by decide +kernel
theorem dX1_lay_36 : decode cX1_lay 36 = .ok (.goto (-16), 3) := by decide +kernel
theorem dX1_lay_39 : decode cX1_lay 39 = .ok (.return_, 1) := by decide +kernel
theorem dX1_lacks_0 : decode cX1_lacks 0 = .ok (.iload_n 1, 1) := by decide +kernel
theorem dX1_lacks_1 : decode cX1_lacks 1 = .ok (.ifCond .lt 25, 3) := by decide +kernel
theorem dX1_lacks_4 : decode cX1_lacks 4 = .ok (.iload_n 2, 1) := by decide +kernel
theorem dX1_lacks_5 : decode cX1_lacks 5 = .ok (.ifCond .lt 21, 3) := by decide +kernel
theorem dX1_lacks_8 : decode cX1_lacks 8 = .ok (.iload_n 1, 1) := by decide +kernel
theorem dX1_lacks_9 : decode cX1_lacks 9 = .ok (.aload_n 0, 1) := by decide +kernel
theorem dX1_lacks_10 : decode cX1_lacks 10 = .ok (.getfield 15, 3) := by decide +kernel
theorem dX1_lacks_13 : decode cX1_lacks 13 = .ok (.if_icmp .gt 13, 3) := by decide +kernel
theorem dX1_lacks_16 : decode cX1_lacks 16 = .ok (.iload_n 2, 1) := by decide +kernel
theorem dX1_lacks_17 : decode cX1_lacks 17 = .ok (.aload_n 0, 1) := by decide +kernel
theorem dX1_lacks_18 : decode cX1_lacks 18 = .ok (.getfield 15, 3) := by decide +kernel
theorem dX1_lacks_21 : decode cX1_lacks 21 = .ok (.iload_n 1, 1) := by decide +kernel
theorem dX1_lacks_22 : decode cX1_lacks 22 = .ok (.isub, 1) := by decide +kernel
theorem dX1_lacks_23 : decode cX1_lacks 23 = .ok (.if_icmp .le 7, 3) := by decide +kernel
theorem dX1_lacks_26 : decode cX1_lacks 26 = .ok (.iconst 1, 1) := by decide +kernel
theorem dX1_lacks_27 : decode cX1_lacks 27 = .ok (.goto 4, 3) := by decide +kernel
theorem dX1_lacks_30 : decode cX1_lacks 30 = .ok (.iconst 0, 1) := by decide +kernel
theorem dX1_lacks_31 : decode cX1_lacks 31 = .ok (.ireturn, 1) := by decide +kernel
theorem dX1_get_0 : decode cX1_get 0 = .ok (.iload_n 1, 1) := by decide +kernel
theorem dX1_get_1 : decode cX1_get 1 = .ok (.ifCond .lt 26, 3) := by decide +kernel
theorem dX1_get_4 : decode cX1_get 4 = .ok (.iload_n 1, 1) := by decide +kernel
theorem dX1_get_5 : decode cX1_get 5 = .ok (.aload_n 0, 1) := by decide +kernel
theorem dX1_get_6 : decode cX1_get 6 = .ok (.getfield 15, 3) := by decide +kernel
theorem dX1_get_9 : decode cX1_get 9 = .ok (.if_icmp .ge 18, 3) := by decide +kernel
theorem dX1_get_12 : decode cX1_get 12 = .ok (.iload_n 1, 1) := by decide +kernel
theorem dX1_get_13 : decode cX1_get 13 = .ok (.bipush 40, 2) := by decide +kernel
theorem dX1_get_15 : decode cX1_get 15 = .ok (.if_icmp .ge 12, 3) := by decide +kernel
theorem dX1_get_18 : decode cX1_get 18 = .ok (.aload_n 0, 1) := by decide +kernel
theorem dX1_get_19 : decode cX1_get 19 = .ok (.getfield 18, 3) := by decide +kernel
theorem dX1_get_22 : decode cX1_get 22 = .ok (.iload_n 1, 1) := by decide +kernel
theorem dX1_get_23 : decode cX1_get 23 = .ok (.laload, 1) := by decide +kernel
theorem dX1_get_24 : decode cX1_get 24 = .ok (.goto 4, 3) := by decide +kernel
theorem dX1_get_27 : decode cX1_get 27 = .ok (.lconst 0, 1) := by decide +kernel
theorem dX1_get_28 : decode cX1_get 28 = .ok (.lreturn, 1) := by decide +kernel
theorem dX1_put_0 : decode cX1_put 0 = .ok (.iload_n 1, 1) := by decide +kernel
theorem dX1_put_1 : decode cX1_put 1 = .ok (.ifCond .lt 28, 3) := by decide +kernel
theorem dX1_put_4 : decode cX1_put 4 = .ok (.iload_n 1, 1) := by decide +kernel
theorem dX1_put_5 : decode cX1_put 5 = .ok (.aload_n 0, 1) := by decide +kernel
theorem dX1_put_6 : decode cX1_put 6 = .ok (.getfield 15, 3) := by decide +kernel
theorem dX1_put_9 : decode cX1_put 9 = .ok (.if_icmp .ge 20, 3) := by decide +kernel
theorem dX1_put_12 : decode cX1_put 12 = .ok (.iload_n 1, 1) := by decide +kernel
theorem dX1_put_13 : decode cX1_put 13 = .ok (.bipush 40, 2) := by decide +kernel
theorem dX1_put_15 : decode cX1_put 15 = .ok (.if_icmp .ge 14, 3) := by decide +kernel
theorem dX1_put_18 : decode cX1_put 18 = .ok (.aload_n 0, 1) := by decide +kernel
theorem dX1_put_19 : decode cX1_put 19 = .ok (.getfield 18, 3) := by decide +kernel
theorem dX1_put_22 : decode cX1_put 22 = .ok (.iload_n 1, 1) := by decide +kernel
theorem dX1_put_23 : decode cX1_put 23 = .ok (.aload_n 0, 1) := by decide +kernel
theorem dX1_put_24 : decode cX1_put 24 = .ok (.lload_n 2, 1) := by decide +kernel
theorem dX1_put_25 : decode cX1_put 25 = .ok (.invokevirtual 22, 3) := by decide +kernel
theorem dX1_put_28 : decode cX1_put 28 = .ok (.lastore, 1) := by decide +kernel
theorem dX1_put_29 : decode cX1_put 29 = .ok (.return_, 1) := by decide +kernel
theorem dX1_lowest_0 : decode cX1_lowest 0 = .ok (.aload_n 0, 1) := by decide +kernel
theorem dX1_lowest_1 : decode cX1_lowest 1 = .ok (.getfield 9, 3) := by decide +kernel
theorem dX1_lowest_4 : decode cX1_lowest 4 = .ok (.lookupswitch 38 #[(8, 28), (16, 33)], 28) := by decide +kernel
theorem dX1_lowest_32 : decode cX1_lowest 32 = .ok (.lload_n 1, 1) := by decide +kernel
theorem dX1_lowest_33 : decode cX1_lowest 33 = .ok (.l2i, 1) := by decide +kernel
theorem dX1_lowest_34 : decode cX1_lowest 34 = .ok (.i2b, 1) := by decide +kernel
theorem dX1_lowest_35 : decode cX1_lowest 35 = .ok (.i2l, 1) := by decide +kernel
theorem dX1_lowest_36 : decode cX1_lowest 36 = .ok (.lreturn, 1) := by decide +kernel
theorem dX1_lowest_37 : decode cX1_lowest 37 = .ok (.lload_n 1, 1) := by decide +kernel
theorem dX1_lowest_38 : decode cX1_lowest 38 = .ok (.l2i, 1) := by decide +kernel
theorem dX1_lowest_39 : decode cX1_lowest 39 = .ok (.i2s, 1) := by decide +kernel
theorem dX1_lowest_40 : decode cX1_lowest 40 = .ok (.i2l, 1) := by decide +kernel
theorem dX1_lowest_41 : decode cX1_lowest 41 = .ok (.lreturn, 1) := by decide +kernel
theorem dX1_lowest_42 : decode cX1_lowest 42 = .ok (.lload_n 1, 1) := by decide +kernel
theorem dX1_lowest_43 : decode cX1_lowest 43 = .ok (.lreturn, 1) := by decide +kernel
theorem dX2_init_0 : decode cX2_init 0 = .ok (.aload_n 0, 1) := by decide +kernel
theorem dX2_init_1 : decode cX2_init 1 = .ok (.invokespecial 3, 3) := by decide +kernel
theorem dX2_init_4 : decode cX2_init 4 = .ok (.aload_n 0, 1) := by decide +kernel
theorem dX2_init_5 : decode cX2_init 5 = .ok (.iconst 0, 1) := by decide +kernel
theorem dX2_init_6 : decode cX2_init 6 = .ok (.putfield 9, 3) := by decide +kernel
theorem dX2_init_9 : decode cX2_init 9 = .ok (.aload_n 0, 1) := by decide +kernel
theorem dX2_init_10 : decode cX2_init 10 = .ok (.bipush 120, 2) := by decide +kernel
theorem dX2_init_12 : decode cX2_init 12 = .ok (.newarray .int, 2) := by decide +kernel
theorem dX2_init_14 : decode cX2_init 14 = .ok (.putfield 15, 3) := by decide +kernel
theorem dX2_init_17 : decode cX2_init 17 = .ok (.aload_n 0, 1) := by decide +kernel
theorem dX2_init_18 : decode cX2_init 18 = .ok (.iconst 0, 1) := by decide +kernel
theorem dX2_init_19 : decode cX2_init 19 = .ok (.putfield 19, 3) := by decide +kernel
theorem dX2_init_22 : decode cX2_init 22 = .ok (.aload_n 0, 1) := by decide +kernel
theorem dX2_init_23 : decode cX2_init 23 = .ok (.iconst 0, 1) := by decide +kernel
theorem dX2_init_24 : decode cX2_init 24 = .ok (.putfield 22, 3) := by decide +kernel
theorem dX2_init_27 : decode cX2_init 27 = .ok (.aload_n 0, 1) := by decide +kernel
theorem dX2_init_28 : decode cX2_init 28 = .ok (.iconst 0, 1) := by decide +kernel
theorem dX2_init_29 : decode cX2_init 29 = .ok (.putfield 25, 3) := by decide +kernel
theorem dX2_init_32 : decode cX2_init 32 = .ok (.aload_n 0, 1) := by decide +kernel
theorem dX2_init_33 : decode cX2_init 33 = .ok (.iconst 0, 1) := by decide +kernel
theorem dX2_init_34 : decode cX2_init 34 = .ok (.putfield 28, 3) := by decide +kernel
theorem dX2_init_37 : decode cX2_init 37 = .ok (.aload_n 0, 1) := by decide +kernel
theorem dX2_init_38 : decode cX2_init 38 = .ok (.iconst 0, 1) := by decide +kernel
theorem dX2_init_39 : decode cX2_init 39 = .ok (.putfield 31, 3) := by decide +kernel
theorem dX2_init_42 : decode cX2_init 42 = .ok (.return_, 1) := by decide +kernel
theorem dX2_take_0 : decode cX2_take 0 = .ok (.aload_n 0, 1) := by decide +kernel
theorem dX2_take_1 : decode cX2_take 1 = .ok (.getfield 9, 3) := by decide +kernel
theorem dX2_take_4 : decode cX2_take 4 = .ok (.ifCond .lt 32, 3) := by decide +kernel
theorem dX2_take_7 : decode cX2_take 7 = .ok (.aload_n 0, 1) := by decide +kernel
theorem dX2_take_8 : decode cX2_take 8 = .ok (.getfield 9, 3) := by decide +kernel
theorem dX2_take_11 : decode cX2_take 11 = .ok (.bipush 120, 2) := by decide +kernel
theorem dX2_take_13 : decode cX2_take 13 = .ok (.if_icmp .ge 23, 3) := by decide +kernel
theorem dX2_take_16 : decode cX2_take 16 = .ok (.aload_n 0, 1) := by decide +kernel
theorem dX2_take_17 : decode cX2_take 17 = .ok (.getfield 15, 3) := by decide +kernel
theorem dX2_take_20 : decode cX2_take 20 = .ok (.aload_n 0, 1) := by decide +kernel
theorem dX2_take_21 : decode cX2_take 21 = .ok (.getfield 9, 3) := by decide +kernel
theorem dX2_take_24 : decode cX2_take 24 = .ok (.iload_n 1, 1) := by decide +kernel
theorem dX2_take_25 : decode cX2_take 25 = .ok (.iastore, 1) := by decide +kernel
theorem dX2_take_26 : decode cX2_take 26 = .ok (.aload_n 0, 1) := by decide +kernel
theorem dX2_take_27 : decode cX2_take 27 = .ok (.dup, 1) := by decide +kernel
theorem dX2_take_28 : decode cX2_take 28 = .ok (.getfield 9, 3) := by decide +kernel
theorem dX2_take_31 : decode cX2_take 31 = .ok (.iconst 1, 1) := by decide +kernel
theorem dX2_take_32 : decode cX2_take 32 = .ok (.iadd, 1) := by decide +kernel
theorem dX2_take_33 : decode cX2_take 33 = .ok (.putfield 9, 3) := by decide +kernel
theorem dX2_take_36 : decode cX2_take 36 = .ok (.return_, 1) := by decide +kernel
theorem dX2_tell_0 : decode cX2_tell 0 = .ok (.aload_n 0, 1) := by decide +kernel
theorem dX2_tell_1 : decode cX2_tell 1 = .ok (.iconst 0, 1) := by decide +kernel
theorem dX2_tell_2 : decode cX2_tell 2 = .ok (.putfield 25, 3) := by decide +kernel
theorem dX2_tell_5 : decode cX2_tell 5 = .ok (.aload_n 0, 1) := by decide +kernel
theorem dX2_tell_6 : decode cX2_tell 6 = .ok (.invokevirtual 34, 3) := by decide +kernel
theorem dX2_tell_9 : decode cX2_tell 9 = .ok (.iconst 1, 1) := by decide +kernel
theorem dX2_tell_10 : decode cX2_tell 10 = .ok (.istore_n 2, 1) := by decide +kernel
theorem dX2_tell_11 : decode cX2_tell 11 = .ok (.iload_n 2, 1) := by decide +kernel
theorem dX2_tell_12 : decode cX2_tell 12 = .ok (.bipush 120, 2) := by decide +kernel
theorem dX2_tell_14 : decode cX2_tell 14 = .ok (.if_icmp .gt 52, 3) := by decide +kernel
theorem dX2_tell_17 : decode cX2_tell 17 = .ok (.aload_n 0, 1) := by decide +kernel
theorem dX2_tell_18 : decode cX2_tell 18 = .ok (.aload_n 1, 1) := by decide +kernel
theorem dX2_tell_19 : decode cX2_tell 19 = .ok (.invokevirtual 37, 3) := by decide +kernel
theorem dX2_tell_22 : decode cX2_tell 22 = .ok (.ifCond .ne 10, 3) := by decide +kernel
theorem dX2_tell_25 : decode cX2_tell 25 = .ok (.iconst (-1), 1) := by decide +kernel
theorem dX2_tell_26 : decode cX2_tell 26 = .ok (.aload_n 0, 1) := by decide +kernel
theorem dX2_tell_27 : decode cX2_tell 27 = .ok (.getfield 22, 3) := by decide +kernel
theorem dX2_tell_30 : decode cX2_tell 30 = .ok (.isub, 1) := by decide +kernel
theorem dX2_tell_31 : decode cX2_tell 31 = .ok (.ireturn, 1) := by decide +kernel
theorem dX2_tell_32 : decode cX2_tell 32 = .ok (.aload_n 0, 1) := by decide +kernel
theorem dX2_tell_33 : decode cX2_tell 33 = .ok (.getfield 19, 3) := by decide +kernel
theorem dX2_tell_36 : decode cX2_tell 36 = .ok (.ifCond .ne 5, 3) := by decide +kernel
theorem dX2_tell_39 : decode cX2_tell 39 = .ok (.iload_n 2, 1) := by decide +kernel
theorem dX2_tell_40 : decode cX2_tell 40 = .ok (.ireturn, 1) := by decide +kernel
theorem dX2_tell_41 : decode cX2_tell 41 = .ok (.aload_n 0, 1) := by decide +kernel
theorem dX2_tell_42 : decode cX2_tell 42 = .ok (.getfield 19, 3) := by decide +kernel
theorem dX2_tell_45 : decode cX2_tell 45 = .ok (.iconst 3, 1) := by decide +kernel
theorem dX2_tell_46 : decode cX2_tell 46 = .ok (.if_icmp .eq 10, 3) := by decide +kernel
theorem dX2_tell_49 : decode cX2_tell 49 = .ok (.iconst (-1), 1) := by decide +kernel
theorem dX2_tell_50 : decode cX2_tell 50 = .ok (.aload_n 0, 1) := by decide +kernel
theorem dX2_tell_51 : decode cX2_tell 51 = .ok (.getfield 22, 3) := by decide +kernel
theorem dX2_tell_54 : decode cX2_tell 54 = .ok (.isub, 1) := by decide +kernel
theorem dX2_tell_55 : decode cX2_tell 55 = .ok (.ireturn, 1) := by decide +kernel
theorem dX2_tell_56 : decode cX2_tell 56 = .ok (.aload_n 0, 1) := by decide +kernel
theorem dX2_tell_57 : decode cX2_tell 57 = .ok (.invokevirtual 34, 3) := by decide +kernel
theorem dX2_tell_60 : decode cX2_tell 60 = .ok (.iinc 2 1, 3) := by decide +kernel
theorem dX2_tell_63 : decode cX2_tell 63 = .ok (.goto (-52), 3) := by decide +kernel
theorem dX2_tell_66 : decode cX2_tell 66 = .ok (.iconst (-1), 1) := by decide +kernel
theorem dX2_tell_67 : decode cX2_tell 67 = .ok (.aload_n 0, 1) := by decide +kernel
theorem dX2_tell_68 : decode cX2_tell 68 = .ok (.getfield 22, 3) := by decide +kernel
theorem dX2_tell_71 : decode cX2_tell 71 = .ok (.isub, 1) := by decide +kernel
theorem dX2_tell_72 : decode cX2_tell 72 = .ok (.ireturn, 1) := by decide +kernel
theorem dX2_isItem_0 : decode cX2_isItem 0 = .ok (.aload_n 0, 1) := by decide +kernel
theorem dX2_isItem_1 : decode cX2_isItem 1 = .ok (.invokevirtual 41, 3) := by decide +kernel
theorem dX2_isItem_4 : decode cX2_isItem 4 = .ok (.istore_n 2, 1) := by decide +kernel
theorem dX2_isItem_5 : decode cX2_isItem 5 = .ok (.iload_n 2, 1) := by decide +kernel
theorem dX2_isItem_6 : decode cX2_isItem 6 = .ok (.ifCond .lt 10, 3) := by decide +kernel
theorem dX2_isItem_9 : decode cX2_isItem 9 = .ok (.aload_n 0, 1) := by decide +kernel
theorem dX2_isItem_10 : decode cX2_isItem 10 = .ok (.aload_n 1, 1) := by decide +kernel
theorem dX2_isItem_11 : decode cX2_isItem 11 = .ok (.iload_n 2, 1) := by decide +kernel
theorem dX2_isItem_12 : decode cX2_isItem 12 = .ok (.invokevirtual 45, 3) := by decide +kernel
theorem dX2_isItem_15 : decode cX2_isItem 15 = .ok (.ireturn, 1) := by decide +kernel
theorem dX2_isItem_16 : decode cX2_isItem 16 = .ok (.aload_n 0, 1) := by decide +kernel
theorem dX2_isItem_17 : decode cX2_isItem 17 = .ok (.ldc 49, 2) := by decide +kernel
theorem dX2_isItem_19 : decode cX2_isItem 19 = .ok (.invokevirtual 51, 3) := by decide +kernel
theorem dX2_isItem_22 : decode cX2_isItem 22 = .ok (.ifCond .eq 9, 3) := by decide +kernel
theorem dX2_isItem_25 : decode cX2_isItem 25 = .ok (.aload_n 0, 1) := by decide +kernel
theorem dX2_isItem_26 : decode cX2_isItem 26 = .ok (.aload_n 1, 1) := by decide +kernel
theorem dX2_isItem_27 : decode cX2_isItem 27 = .ok (.invokevirtual 55, 3) := by decide +kernel
theorem dX2_isItem_30 : decode cX2_isItem 30 = .ok (.ireturn, 1) := by decide +kernel
theorem dX2_isItem_31 : decode cX2_isItem 31 = .ok (.aload_n 0, 1) := by decide +kernel
theorem dX2_isItem_32 : decode cX2_isItem 32 = .ok (.ldc 58, 2) := by decide +kernel
theorem dX2_isItem_34 : decode cX2_isItem 34 = .ok (.invokevirtual 51, 3) := by decide +kernel
theorem dX2_isItem_37 : decode cX2_isItem 37 = .ok (.ifCond .eq 10, 3) := by decide +kernel
theorem dX2_isItem_40 : decode cX2_isItem 40 = .ok (.aload_n 0, 1) := by decide +kernel
theorem dX2_isItem_41 : decode cX2_isItem 41 = .ok (.aload_n 1, 1) := by decide +kernel
theorem dX2_isItem_42 : decode cX2_isItem 42 = .ok (.iconst 1, 1) := by decide +kernel
theorem dX2_isItem_43 : decode cX2_isItem 43 = .ok (.invokevirtual 60, 3) := by decide +kernel
theorem dX2_isItem_46 : decode cX2_isItem 46 = .ok (.ireturn, 1) := by decide +kernel
theorem dX2_isItem_47 : decode cX2_isItem 47 = .ok (.aload_n 0, 1) := by decide +kernel
theorem dX2_isItem_48 : decode cX2_isItem 48 = .ok (.ldc 63, 2) := by decide +kernel
theorem dX2_isItem_50 : decode cX2_isItem 50 = .ok (.invokevirtual 51, 3) := by decide +kernel
theorem dX2_isItem_53 : decode cX2_isItem 53 = .ok (.ifCond .eq 10, 3) := by decide +kernel
theorem dX2_isItem_56 : decode cX2_isItem 56 = .ok (.aload_n 0, 1) := by decide +kernel
theorem dX2_isItem_57 : decode cX2_isItem 57 = .ok (.aload_n 1, 1) := by decide +kernel
theorem dX2_isItem_58 : decode cX2_isItem 58 = .ok (.iconst 0, 1) := by decide +kernel
theorem dX2_isItem_59 : decode cX2_isItem 59 = .ok (.invokevirtual 60, 3) := by decide +kernel
theorem dX2_isItem_62 : decode cX2_isItem 62 = .ok (.ireturn, 1) := by decide +kernel
theorem dX2_isItem_63 : decode cX2_isItem 63 = .ok (.aload_n 0, 1) := by decide +kernel
theorem dX2_isItem_64 : decode cX2_isItem 64 = .ok (.ldc 65, 2) := by decide +kernel
theorem dX2_isItem_66 : decode cX2_isItem 66 = .ok (.invokevirtual 51, 3) := by decide +kernel
theorem dX2_isItem_69 : decode cX2_isItem 69 = .ok (.ifCond .eq 28, 3) := by decide +kernel
theorem dX2_isItem_72 : decode cX2_isItem 72 = .ok (.aload_n 0, 1) := by decide +kernel
theorem dX2_isItem_73 : decode cX2_isItem 73 = .ok (.invokevirtual 34, 3) := by decide +kernel
theorem dX2_isItem_76 : decode cX2_isItem 76 = .ok (.aload_n 0, 1) := by decide +kernel
theorem dX2_isItem_77 : decode cX2_isItem 77 = .ok (.bipush 8, 2) := by decide +kernel
theorem dX2_isItem_79 : decode cX2_isItem 79 = .ok (.invokevirtual 67, 3) := by decide +kernel
theorem dX2_isItem_82 : decode cX2_isItem 82 = .ok (.ifCond .ne 5, 3) := by decide +kernel
theorem dX2_isItem_85 : decode cX2_isItem 85 = .ok (.iconst 0, 1) := by decide +kernel
theorem dX2_isItem_86 : decode cX2_isItem 86 = .ok (.ireturn, 1) := by decide +kernel
theorem dX2_isItem_87 : decode cX2_isItem 87 = .ok (.aload_n 1, 1) := by decide +kernel
theorem dX2_isItem_88 : decode cX2_isItem 88 = .ok (.aload_n 0, 1) := by decide +kernel
theorem dX2_isItem_89 : decode cX2_isItem 89 = .ok (.getfield 31, 3) := by decide +kernel
theorem dX2_isItem_92 : decode cX2_isItem 92 = .ok (.putfield 71, 3) := by decide +kernel
theorem dX2_isItem_95 : decode cX2_isItem 95 = .ok (.iconst 1, 1) := by decide +kernel
theorem dX2_isItem_96 : decode cX2_isItem 96 = .ok (.ireturn, 1) := by decide +kernel
theorem dX2_isItem_97 : decode cX2_isItem 97 = .ok (.iconst 0, 1) := by decide +kernel
theorem dX2_isItem_98 : decode cX2_isItem 98 = .ok (.ireturn, 1) := by decide +kernel
theorem dX2_isFigure_0 : decode cX2_isFigure 0 = .ok (.aload_n 1, 1) := by decide +kernel
theorem dX2_isFigure_1 : decode cX2_isFigure 1 = .ok (.invokevirtual 76, 3) := by decide +kernel
theorem dX2_isFigure_4 : decode cX2_isFigure 4 = .ok (.ifCond .eq 5, 3) := by decide +kernel
theorem dX2_isFigure_7 : decode cX2_isFigure 7 = .ok (.iconst 0, 1) := by decide +kernel
theorem dX2_isFigure_8 : decode cX2_isFigure 8 = .ok (.ireturn, 1) := by decide +kernel
theorem dX2_isFigure_9 : decode cX2_isFigure 9 = .ok (.aload_n 0, 1) := by decide +kernel
theorem dX2_isFigure_10 : decode cX2_isFigure 10 = .ok (.invokevirtual 34, 3) := by decide +kernel
theorem dX2_isFigure_13 : decode cX2_isFigure 13 = .ok (.aload_n 0, 1) := by decide +kernel
theorem dX2_isFigure_14 : decode cX2_isFigure 14 = .ok (.iconst 3, 1) := by decide +kernel
theorem dX2_isFigure_15 : decode cX2_isFigure 15 = .ok (.invokevirtual 67, 3) := by decide +kernel
theorem dX2_isFigure_18 : decode cX2_isFigure 18 = .ok (.ifCond .ne 5, 3) := by decide +kernel
theorem dX2_isFigure_21 : decode cX2_isFigure 21 = .ok (.iconst 0, 1) := by decide +kernel
theorem dX2_isFigure_22 : decode cX2_isFigure 22 = .ok (.ireturn, 1) := by decide +kernel
theorem dX2_isFigure_23 : decode cX2_isFigure 23 = .ok (.aload_n 0, 1) := by decide +kernel
theorem dX2_isFigure_24 : decode cX2_isFigure 24 = .ok (.getfield 31, 3) := by decide +kernel
theorem dX2_isFigure_27 : decode cX2_isFigure 27 = .ok (.istore_n 3, 1) := by decide +kernel
theorem dX2_isFigure_28 : decode cX2_isFigure 28 = .ok (.aload_n 0, 1) := by decide +kernel
theorem dX2_isFigure_29 : decode cX2_isFigure 29 = .ok (.bipush 19, 2) := by decide +kernel
theorem dX2_isFigure_31 : decode cX2_isFigure 31 = .ok (.invokevirtual 67, 3) := by decide +kernel
theorem dX2_isFigure_34 : decode cX2_isFigure 34 = .ok (.ifCond .ne 5, 3) := by decide +kernel
theorem dX2_isFigure_37 : decode cX2_isFigure 37 = .ok (.iconst 0, 1) := by decide +kernel
theorem dX2_isFigure_38 : decode cX2_isFigure 38 = .ok (.ireturn, 1) := by decide +kernel
theorem dX2_isFigure_39 : decode cX2_isFigure 39 = .ok (.aload_n 1, 1) := by decide +kernel
theorem dX2_isFigure_40 : decode cX2_isFigure 40 = .ok (.iload_n 2, 1) := by decide +kernel
theorem dX2_isFigure_41 : decode cX2_isFigure 41 = .ok (.iload_n 3, 1) := by decide +kernel
theorem dX2_isFigure_42 : decode cX2_isFigure 42 = .ok (.aload_n 0, 1) := by decide +kernel
theorem dX2_isFigure_43 : decode cX2_isFigure 43 = .ok (.getfield 31, 3) := by decide +kernel
theorem dX2_isFigure_46 : decode cX2_isFigure 46 = .ok (.invokevirtual 80, 3) := by decide +kernel
theorem dX2_isFigure_49 : decode cX2_isFigure 49 = .ok (.istore 4, 2) := by decide +kernel
theorem dX2_isFigure_51 : decode cX2_isFigure 51 = .ok (.aload_n 0, 1) := by decide +kernel
theorem dX2_isFigure_52 : decode cX2_isFigure 52 = .ok (.ldc 84, 2) := by decide +kernel
theorem dX2_isFigure_54 : decode cX2_isFigure 54 = .ok (.invokevirtual 51, 3) := by decide +kernel
theorem dX2_isFigure_57 : decode cX2_isFigure 57 = .ok (.ifCond .eq 29, 3) := by decide +kernel
theorem dX2_isFigure_60 : decode cX2_isFigure 60 = .ok (.aload_n 0, 1) := by decide +kernel
theorem dX2_isFigure_61 : decode cX2_isFigure 61 = .ok (.invokevirtual 34, 3) := by decide +kernel
theorem dX2_isFigure_64 : decode cX2_isFigure 64 = .ok (.aload_n 0, 1) := by decide +kernel
theorem dX2_isFigure_65 : decode cX2_isFigure 65 = .ok (.bipush 99, 2) := by decide +kernel
theorem dX2_isFigure_67 : decode cX2_isFigure 67 = .ok (.invokevirtual 67, 3) := by decide +kernel
theorem dX2_isFigure_70 : decode cX2_isFigure 70 = .ok (.ifCond .ne 5, 3) := by decide +kernel
theorem dX2_isFigure_73 : decode cX2_isFigure 73 = .ok (.iconst 0, 1) := by decide +kernel
theorem dX2_isFigure_74 : decode cX2_isFigure 74 = .ok (.ireturn, 1) := by decide +kernel
theorem dX2_isFigure_75 : decode cX2_isFigure 75 = .ok (.aload_n 1, 1) := by decide +kernel
theorem dX2_isFigure_76 : decode cX2_isFigure 76 = .ok (.iload 4, 2) := by decide +kernel
theorem dX2_isFigure_78 : decode cX2_isFigure 78 = .ok (.iconst 3, 1) := by decide +kernel
theorem dX2_isFigure_79 : decode cX2_isFigure 79 = .ok (.aload_n 0, 1) := by decide +kernel
theorem dX2_isFigure_80 : decode cX2_isFigure 80 = .ok (.getfield 31, 3) := by decide +kernel
theorem dX2_isFigure_83 : decode cX2_isFigure 83 = .ok (.invokevirtual 86, 3) := by decide +kernel
theorem dX2_isFigure_86 : decode cX2_isFigure 86 = .ok (.aload_n 0, 1) := by decide +kernel
theorem dX2_isFigure_87 : decode cX2_isFigure 87 = .ok (.ldc 90, 2) := by decide +kernel
theorem dX2_isFigure_89 : decode cX2_isFigure 89 = .ok (.invokevirtual 51, 3) := by decide +kernel
theorem dX2_isFigure_92 : decode cX2_isFigure 92 = .ok (.ifCond .eq 15, 3) := by decide +kernel
theorem dX2_isFigure_95 : decode cX2_isFigure 95 = .ok (.aload_n 0, 1) := by decide +kernel
theorem dX2_isFigure_96 : decode cX2_isFigure 96 = .ok (.invokevirtual 34, 3) := by decide +kernel
theorem dX2_isFigure_99 : decode cX2_isFigure 99 = .ok (.aload_n 1, 1) := by decide +kernel
theorem dX2_isFigure_100 : decode cX2_isFigure 100 = .ok (.iload 4, 2) := by decide +kernel
theorem dX2_isFigure_102 : decode cX2_isFigure 102 = .ok (.iconst 4, 1) := by decide +kernel
theorem dX2_isFigure_103 : decode cX2_isFigure 103 = .ok (.iconst 1, 1) := by decide +kernel
theorem dX2_isFigure_104 : decode cX2_isFigure 104 = .ok (.invokevirtual 86, 3) := by decide +kernel
theorem dX2_isFigure_107 : decode cX2_isFigure 107 = .ok (.iconst 1, 1) := by decide +kernel
theorem dX2_isFigure_108 : decode cX2_isFigure 108 = .ok (.ireturn, 1) := by decide +kernel
theorem dX2_isWanting_0 : decode cX2_isWanting 0 = .ok (.aload_n 0, 1) := by decide +kernel
theorem dX2_isWanting_1 : decode cX2_isWanting 1 = .ok (.invokevirtual 34, 3) := by decide +kernel
theorem dX2_isWanting_4 : decode cX2_isWanting 4 = .ok (.aload_n 0, 1) := by decide +kernel
theorem dX2_isWanting_5 : decode cX2_isWanting 5 = .ok (.aload_n 1, 1) := by decide +kernel
theorem dX2_isWanting_6 : decode cX2_isWanting 6 = .ok (.getfield 92, 3) := by decide +kernel
theorem dX2_isWanting_9 : decode cX2_isWanting 9 = .ok (.iconst 1, 1) := by decide +kernel
theorem dX2_isWanting_10 : decode cX2_isWanting 10 = .ok (.isub, 1) := by decide +kernel
theorem dX2_isWanting_11 : decode cX2_isWanting 11 = .ok (.invokevirtual 67, 3) := by decide +kernel
theorem dX2_isWanting_14 : decode cX2_isWanting 14 = .ok (.ifCond .ne 5, 3) := by decide +kernel
theorem dX2_isWanting_17 : decode cX2_isWanting 17 = .ok (.iconst 0, 1) := by decide +kernel
theorem dX2_isWanting_18 : decode cX2_isWanting 18 = .ok (.ireturn, 1) := by decide +kernel
theorem dX2_isWanting_19 : decode cX2_isWanting 19 = .ok (.aload_n 0, 1) := by decide +kernel
theorem dX2_isWanting_20 : decode cX2_isWanting 20 = .ok (.getfield 31, 3) := by decide +kernel
theorem dX2_isWanting_23 : decode cX2_isWanting 23 = .ok (.istore_n 2, 1) := by decide +kernel
theorem dX2_isWanting_24 : decode cX2_isWanting 24 = .ok (.aload_n 0, 1) := by decide +kernel
theorem dX2_isWanting_25 : decode cX2_isWanting 25 = .ok (.invokevirtual 95, 3) := by decide +kernel
theorem dX2_isWanting_28 : decode cX2_isWanting 28 = .ok (.istore_n 3, 1) := by decide +kernel
theorem dX2_isWanting_29 : decode cX2_isWanting 29 = .ok (.iload_n 3, 1) := by decide +kernel
theorem dX2_isWanting_30 : decode cX2_isWanting 30 = .ok (.ifCond .ge 5, 3) := by decide +kernel
theorem dX2_isWanting_33 : decode cX2_isWanting 33 = .ok (.iconst 0, 1) := by decide +kernel
theorem dX2_isWanting_34 : decode cX2_isWanting 34 = .ok (.ireturn, 1) := by decide +kernel
theorem dX2_isWanting_35 : decode cX2_isWanting 35 = .ok (.aload_n 0, 1) := by decide +kernel
theorem dX2_isWanting_36 : decode cX2_isWanting 36 = .ok (.invokevirtual 34, 3) := by decide +kernel
theorem dX2_isWanting_39 : decode cX2_isWanting 39 = .ok (.iload_n 3, 1) := by decide +kernel
theorem dX2_isWanting_40 : decode cX2_isWanting 40 = .ok (.iconst 1, 1) := by decide +kernel
theorem dX2_isWanting_41 : decode cX2_isWanting 41 = .ok (.if_icmp .eq 8, 3) := by decide +kernel
theorem dX2_isWanting_44 : decode cX2_isWanting 44 = .ok (.iload_n 3, 1) := by decide +kernel
theorem dX2_isWanting_45 : decode cX2_isWanting 45 = .ok (.iconst 2, 1) := by decide +kernel
theorem dX2_isWanting_46 : decode cX2_isWanting 46 = .ok (.if_icmp .ne 29, 3) := by decide +kernel
theorem dX2_isWanting_49 : decode cX2_isWanting 49 = .ok (.aload_n 0, 1) := by decide +kernel
theorem dX2_isWanting_50 : decode cX2_isWanting 50 = .ok (.aload_n 1, 1) := by decide +kernel
theorem dX2_isWanting_51 : decode cX2_isWanting 51 = .ok (.getfield 92, 3) := by decide +kernel
theorem dX2_isWanting_54 : decode cX2_isWanting 54 = .ok (.iconst 1, 1) := by decide +kernel
theorem dX2_isWanting_55 : decode cX2_isWanting 55 = .ok (.isub, 1) := by decide +kernel
theorem dX2_isWanting_56 : decode cX2_isWanting 56 = .ok (.invokevirtual 67, 3) := by decide +kernel
theorem dX2_isWanting_59 : decode cX2_isWanting 59 = .ok (.ifCond .ne 5, 3) := by decide +kernel
theorem dX2_isWanting_62 : decode cX2_isWanting 62 = .ok (.iconst 0, 1) := by decide +kernel
theorem dX2_isWanting_63 : decode cX2_isWanting 63 = .ok (.ireturn, 1) := by decide +kernel
theorem dX2_isWanting_64 : decode cX2_isWanting 64 = .ok (.aload_n 1, 1) := by decide +kernel
theorem dX2_isWanting_65 : decode cX2_isWanting 65 = .ok (.iload_n 2, 1) := by decide +kernel
theorem dX2_isWanting_66 : decode cX2_isWanting 66 = .ok (.bipush 6, 2) := by decide +kernel
theorem dX2_isWanting_68 : decode cX2_isWanting 68 = .ok (.aload_n 0, 1) := by decide +kernel
theorem dX2_isWanting_69 : decode cX2_isWanting 69 = .ok (.getfield 31, 3) := by decide +kernel
theorem dX2_isWanting_72 : decode cX2_isWanting 72 = .ok (.invokevirtual 86, 3) := by decide +kernel
theorem dX2_isWanting_75 : decode cX2_isWanting 75 = .ok (.aload_n 1, 1) := by decide +kernel
theorem dX2_isWanting_76 : decode cX2_isWanting 76 = .ok (.iload_n 2, 1) := by decide +kernel
theorem dX2_isWanting_77 : decode cX2_isWanting 77 = .ok (.iconst 5, 1) := by decide +kernel
theorem dX2_isWanting_78 : decode cX2_isWanting 78 = .ok (.iload_n 3, 1) := by decide +kernel
theorem dX2_isWanting_79 : decode cX2_isWanting 79 = .ok (.invokevirtual 86, 3) := by decide +kernel
theorem dX2_isWanting_82 : decode cX2_isWanting 82 = .ok (.iconst 1, 1) := by decide +kernel
theorem dX2_isWanting_83 : decode cX2_isWanting 83 = .ok (.ireturn, 1) := by decide +kernel
theorem dX2_isLetting_0 : decode cX2_isLetting 0 = .ok (.aload_n 0, 1) := by decide +kernel
theorem dX2_isLetting_1 : decode cX2_isLetting 1 = .ok (.invokevirtual 34, 3) := by decide +kernel
theorem dX2_isLetting_4 : decode cX2_isLetting 4 = .ok (.aload_n 0, 1) := by decide +kernel
theorem dX2_isLetting_5 : decode cX2_isLetting 5 = .ok (.aload_n 1, 1) := by decide +kernel
theorem dX2_isLetting_6 : decode cX2_isLetting 6 = .ok (.getfield 92, 3) := by decide +kernel
theorem dX2_isLetting_9 : decode cX2_isLetting 9 = .ok (.iconst 1, 1) := by decide +kernel
theorem dX2_isLetting_10 : decode cX2_isLetting 10 = .ok (.isub, 1) := by decide +kernel
theorem dX2_isLetting_11 : decode cX2_isLetting 11 = .ok (.invokevirtual 67, 3) := by decide +kernel
theorem dX2_isLetting_14 : decode cX2_isLetting 14 = .ok (.ifCond .ne 5, 3) := by decide +kernel
theorem dX2_isLetting_17 : decode cX2_isLetting 17 = .ok (.iconst 0, 1) := by decide +kernel
theorem dX2_isLetting_18 : decode cX2_isLetting 18 = .ok (.ireturn, 1) := by decide +kernel
theorem dX2_isLetting_19 : decode cX2_isLetting 19 = .ok (.aload_n 1, 1) := by decide +kernel
theorem dX2_isLetting_20 : decode cX2_isLetting 20 = .ok (.aload_n 0, 1) := by decide +kernel
theorem dX2_isLetting_21 : decode cX2_isLetting 21 = .ok (.getfield 31, 3) := by decide +kernel
theorem dX2_isLetting_24 : decode cX2_isLetting 24 = .ok (.bipush 7, 2) := by decide +kernel
theorem dX2_isLetting_26 : decode cX2_isLetting 26 = .ok (.iload_n 2, 1) := by decide +kernel
theorem dX2_isLetting_27 : decode cX2_isLetting 27 = .ok (.invokevirtual 86, 3) := by decide +kernel
theorem dX2_isLetting_30 : decode cX2_isLetting 30 = .ok (.iconst 1, 1) := by decide +kernel
theorem dX2_isLetting_31 : decode cX2_isLetting 31 = .ok (.ireturn, 1) := by decide +kernel
theorem dX2_takesNumber_0 : decode cX2_takesNumber 0 = .ok (.aload_n 0, 1) := by decide +kernel
theorem dX2_takesNumber_1 : decode cX2_takesNumber 1 = .ok (.getfield 19, 3) := by decide +kernel
theorem dX2_takesNumber_4 : decode cX2_takesNumber 4 = .ok (.iconst 2, 1) := by decide +kernel
theorem dX2_takesNumber_5 : decode cX2_takesNumber 5 = .ok (.if_icmp .ne 11, 3) := by decide +kernel
theorem dX2_takesNumber_8 : decode cX2_takesNumber 8 = .ok (.aload_n 0, 1) := by decide +kernel
theorem dX2_takesNumber_9 : decode cX2_takesNumber 9 = .ok (.getfield 28, 3) := by decide +kernel
theorem dX2_takesNumber_12 : decode cX2_takesNumber 12 = .ok (.iload_n 1, 1) := by decide +kernel
theorem dX2_takesNumber_13 : decode cX2_takesNumber 13 = .ok (.if_icmp .le 5, 3) := by decide +kernel
theorem dX2_takesNumber_16 : decode cX2_takesNumber 16 = .ok (.iconst 0, 1) := by decide +kernel
theorem dX2_takesNumber_17 : decode cX2_takesNumber 17 = .ok (.ireturn, 1) := by decide +kernel
theorem dX2_takesNumber_18 : decode cX2_takesNumber 18 = .ok (.aload_n 0, 1) := by decide +kernel
theorem dX2_takesNumber_19 : decode cX2_takesNumber 19 = .ok (.aload_n 0, 1) := by decide +kernel
theorem dX2_takesNumber_20 : decode cX2_takesNumber 20 = .ok (.getfield 28, 3) := by decide +kernel
theorem dX2_takesNumber_23 : decode cX2_takesNumber 23 = .ok (.putfield 31, 3) := by decide +kernel
theorem dX2_takesNumber_26 : decode cX2_takesNumber 26 = .ok (.aload_n 0, 1) := by decide +kernel
theorem dX2_takesNumber_27 : decode cX2_takesNumber 27 = .ok (.invokevirtual 34, 3) := by decide +kernel
theorem dX2_takesNumber_30 : decode cX2_takesNumber 30 = .ok (.iconst 1, 1) := by decide +kernel
theorem dX2_takesNumber_31 : decode cX2_takesNumber 31 = .ok (.ireturn, 1) := by decide +kernel
theorem dX2_kindNamed_0 : decode cX2_kindNamed 0 = .ok (.aload_n 0, 1) := by decide +kernel
theorem dX2_kindNamed_1 : decode cX2_kindNamed 1 = .ok (.ldc 98, 2) := by decide +kernel
theorem dX2_kindNamed_3 : decode cX2_kindNamed 3 = .ok (.invokevirtual 51, 3) := by decide +kernel
theorem dX2_kindNamed_6 : decode cX2_kindNamed 6 = .ok (.ifCond .eq 5, 3) := by decide +kernel
theorem dX2_kindNamed_9 : decode cX2_kindNamed 9 = .ok (.iconst 0, 1) := by decide +kernel
theorem dX2_kindNamed_10 : decode cX2_kindNamed 10 = .ok (.ireturn, 1) := by decide +kernel
theorem dX2_kindNamed_11 : decode cX2_kindNamed 11 = .ok (.aload_n 0, 1) := by decide +kernel
theorem dX2_kindNamed_12 : decode cX2_kindNamed 12 = .ok (.ldc 100, 2) := by decide +kernel
theorem dX2_kindNamed_14 : decode cX2_kindNamed 14 = .ok (.invokevirtual 51, 3) := by decide +kernel
theorem dX2_kindNamed_17 : decode cX2_kindNamed 17 = .ok (.ifCond .eq 5, 3) := by decide +kernel
theorem dX2_kindNamed_20 : decode cX2_kindNamed 20 = .ok (.iconst 1, 1) := by decide +kernel
theorem dX2_kindNamed_21 : decode cX2_kindNamed 21 = .ok (.ireturn, 1) := by decide +kernel
theorem dX2_kindNamed_22 : decode cX2_kindNamed 22 = .ok (.aload_n 0, 1) := by decide +kernel
theorem dX2_kindNamed_23 : decode cX2_kindNamed 23 = .ok (.ldc 102, 2) := by decide +kernel
theorem dX2_kindNamed_25 : decode cX2_kindNamed 25 = .ok (.invokevirtual 51, 3) := by decide +kernel
theorem dX2_kindNamed_28 : decode cX2_kindNamed 28 = .ok (.ifCond .eq 5, 3) := by decide +kernel
theorem dX2_kindNamed_31 : decode cX2_kindNamed 31 = .ok (.iconst 2, 1) := by decide +kernel
theorem dX2_kindNamed_32 : decode cX2_kindNamed 32 = .ok (.ireturn, 1) := by decide +kernel
theorem dX2_kindNamed_33 : decode cX2_kindNamed 33 = .ok (.aload_n 0, 1) := by decide +kernel
theorem dX2_kindNamed_34 : decode cX2_kindNamed 34 = .ok (.ldc 104, 2) := by decide +kernel
theorem dX2_kindNamed_36 : decode cX2_kindNamed 36 = .ok (.invokevirtual 51, 3) := by decide +kernel
theorem dX2_kindNamed_39 : decode cX2_kindNamed 39 = .ok (.ifCond .eq 5, 3) := by decide +kernel
theorem dX2_kindNamed_42 : decode cX2_kindNamed 42 = .ok (.iconst 3, 1) := by decide +kernel
theorem dX2_kindNamed_43 : decode cX2_kindNamed 43 = .ok (.ireturn, 1) := by decide +kernel
theorem dX2_kindNamed_44 : decode cX2_kindNamed 44 = .ok (.aload_n 0, 1) := by decide +kernel
theorem dX2_kindNamed_45 : decode cX2_kindNamed 45 = .ok (.ldc 106, 2) := by decide +kernel
theorem dX2_kindNamed_47 : decode cX2_kindNamed 47 = .ok (.invokevirtual 51, 3) := by decide +kernel
theorem dX2_kindNamed_50 : decode cX2_kindNamed 50 = .ok (.ifCond .eq 5, 3) := by decide +kernel
theorem dX2_kindNamed_53 : decode cX2_kindNamed 53 = .ok (.iconst 4, 1) := by decide +kernel
theorem dX2_kindNamed_54 : decode cX2_kindNamed 54 = .ok (.ireturn, 1) := by decide +kernel
theorem dX2_kindNamed_55 : decode cX2_kindNamed 55 = .ok (.aload_n 0, 1) := by decide +kernel
theorem dX2_kindNamed_56 : decode cX2_kindNamed 56 = .ok (.ldc 108, 2) := by decide +kernel
theorem dX2_kindNamed_58 : decode cX2_kindNamed 58 = .ok (.invokevirtual 51, 3) := by decide +kernel
theorem dX2_kindNamed_61 : decode cX2_kindNamed 61 = .ok (.ifCond .eq 7, 3) := by decide +kernel
theorem dX2_kindNamed_64 : decode cX2_kindNamed 64 = .ok (.iconst 5, 1) := by decide +kernel
theorem dX2_kindNamed_65 : decode cX2_kindNamed 65 = .ok (.goto 4, 3) := by decide +kernel
theorem dX2_kindNamed_68 : decode cX2_kindNamed 68 = .ok (.iconst (-1), 1) := by decide +kernel
theorem dX2_kindNamed_69 : decode cX2_kindNamed 69 = .ok (.ireturn, 1) := by decide +kernel
theorem dX2_wantNamed_0 : decode cX2_wantNamed 0 = .ok (.aload_n 0, 1) := by decide +kernel
theorem dX2_wantNamed_1 : decode cX2_wantNamed 1 = .ok (.ldc 110, 2) := by decide +kernel
theorem dX2_wantNamed_3 : decode cX2_wantNamed 3 = .ok (.invokevirtual 51, 3) := by decide +kernel
theorem dX2_wantNamed_6 : decode cX2_wantNamed 6 = .ok (.ifCond .eq 5, 3) := by decide +kernel
theorem dX2_wantNamed_9 : decode cX2_wantNamed 9 = .ok (.iconst 0, 1) := by decide +kernel
theorem dX2_wantNamed_10 : decode cX2_wantNamed 10 = .ok (.ireturn, 1) := by decide +kernel
theorem dX2_wantNamed_11 : decode cX2_wantNamed 11 = .ok (.aload_n 0, 1) := by decide +kernel
theorem dX2_wantNamed_12 : decode cX2_wantNamed 12 = .ok (.ldc 112, 2) := by decide +kernel
theorem dX2_wantNamed_14 : decode cX2_wantNamed 14 = .ok (.invokevirtual 51, 3) := by decide +kernel
theorem dX2_wantNamed_17 : decode cX2_wantNamed 17 = .ok (.ifCond .eq 5, 3) := by decide +kernel
theorem dX2_wantNamed_20 : decode cX2_wantNamed 20 = .ok (.iconst 1, 1) := by decide +kernel
theorem dX2_wantNamed_21 : decode cX2_wantNamed 21 = .ok (.ireturn, 1) := by decide +kernel
theorem dX2_wantNamed_22 : decode cX2_wantNamed 22 = .ok (.aload_n 0, 1) := by decide +kernel
theorem dX2_wantNamed_23 : decode cX2_wantNamed 23 = .ok (.ldc 114, 2) := by decide +kernel
theorem dX2_wantNamed_25 : decode cX2_wantNamed 25 = .ok (.invokevirtual 51, 3) := by decide +kernel
theorem dX2_wantNamed_28 : decode cX2_wantNamed 28 = .ok (.ifCond .eq 5, 3) := by decide +kernel
theorem dX2_wantNamed_31 : decode cX2_wantNamed 31 = .ok (.iconst 2, 1) := by decide +kernel
theorem dX2_wantNamed_32 : decode cX2_wantNamed 32 = .ok (.ireturn, 1) := by decide +kernel
theorem dX2_wantNamed_33 : decode cX2_wantNamed 33 = .ok (.aload_n 0, 1) := by decide +kernel
theorem dX2_wantNamed_34 : decode cX2_wantNamed 34 = .ok (.ldc 116, 2) := by decide +kernel
theorem dX2_wantNamed_36 : decode cX2_wantNamed 36 = .ok (.invokevirtual 51, 3) := by decide +kernel
theorem dX2_wantNamed_39 : decode cX2_wantNamed 39 = .ok (.ifCond .eq 5, 3) := by decide +kernel
theorem dX2_wantNamed_42 : decode cX2_wantNamed 42 = .ok (.iconst 3, 1) := by decide +kernel
theorem dX2_wantNamed_43 : decode cX2_wantNamed 43 = .ok (.ireturn, 1) := by decide +kernel
theorem dX2_wantNamed_44 : decode cX2_wantNamed 44 = .ok (.aload_n 0, 1) := by decide +kernel
theorem dX2_wantNamed_45 : decode cX2_wantNamed 45 = .ok (.ldc 90, 2) := by decide +kernel
theorem dX2_wantNamed_47 : decode cX2_wantNamed 47 = .ok (.invokevirtual 51, 3) := by decide +kernel
theorem dX2_wantNamed_50 : decode cX2_wantNamed 50 = .ok (.ifCond .eq 7, 3) := by decide +kernel
theorem dX2_wantNamed_53 : decode cX2_wantNamed 53 = .ok (.iconst 4, 1) := by decide +kernel
theorem dX2_wantNamed_54 : decode cX2_wantNamed 54 = .ok (.goto 4, 3) := by decide +kernel
theorem dX2_wantNamed_57 : decode cX2_wantNamed 57 = .ok (.iconst (-1), 1) := by decide +kernel
theorem dX2_wantNamed_58 : decode cX2_wantNamed 58 = .ok (.ireturn, 1) := by decide +kernel
theorem dX2_isWord_0 : decode cX2_isWord 0 = .ok (.aload_n 0, 1) := by decide +kernel
theorem dX2_isWord_1 : decode cX2_isWord 1 = .ok (.getfield 19, 3) := by decide +kernel
theorem dX2_isWord_4 : decode cX2_isWord 4 = .ok (.iconst 1, 1) := by decide +kernel
theorem dX2_isWord_5 : decode cX2_isWord 5 = .ok (.if_icmp .ne 19, 3) := by decide +kernel
theorem dX2_isWord_8 : decode cX2_isWord 8 = .ok (.aload_n 0, 1) := by decide +kernel
theorem dX2_isWord_9 : decode cX2_isWord 9 = .ok (.getfield 25, 3) := by decide +kernel
theorem dX2_isWord_12 : decode cX2_isWord 12 = .ok (.aload_n 0, 1) := by decide +kernel
theorem dX2_isWord_13 : decode cX2_isWord 13 = .ok (.getfield 22, 3) := by decide +kernel
theorem dX2_isWord_16 : decode cX2_isWord 16 = .ok (.isub, 1) := by decide +kernel
theorem dX2_isWord_17 : decode cX2_isWord 17 = .ok (.aload_n 1, 1) := by decide +kernel
theorem dX2_isWord_18 : decode cX2_isWord 18 = .ok (.invokevirtual 118, 3) := by decide +kernel
theorem dX2_isWord_21 : decode cX2_isWord 21 = .ok (.if_icmp .eq 5, 3) := by decide +kernel
theorem dX2_isWord_24 : decode cX2_isWord 24 = .ok (.iconst 0, 1) := by decide +kernel
theorem dX2_isWord_25 : decode cX2_isWord 25 = .ok (.ireturn, 1) := by decide +kernel
theorem dX2_isWord_26 : decode cX2_isWord 26 = .ok (.iconst 0, 1) := by decide +kernel
theorem dX2_isWord_27 : decode cX2_isWord 27 = .ok (.istore_n 2, 1) := by decide +kernel
theorem dX2_isWord_28 : decode cX2_isWord 28 = .ok (.iload_n 2, 1) := by decide +kernel
theorem dX2_isWord_29 : decode cX2_isWord 29 = .ok (.aload_n 1, 1) := by decide +kernel
theorem dX2_isWord_30 : decode cX2_isWord 30 = .ok (.invokevirtual 118, 3) := by decide +kernel
theorem dX2_isWord_33 : decode cX2_isWord 33 = .ok (.if_icmp .ge 29, 3) := by decide +kernel
theorem dX2_isWord_36 : decode cX2_isWord 36 = .ok (.aload_n 0, 1) := by decide +kernel
theorem dX2_isWord_37 : decode cX2_isWord 37 = .ok (.aload_n 0, 1) := by decide +kernel
theorem dX2_isWord_38 : decode cX2_isWord 38 = .ok (.getfield 22, 3) := by decide +kernel
theorem dX2_isWord_41 : decode cX2_isWord 41 = .ok (.iload_n 2, 1) := by decide +kernel
theorem dX2_isWord_42 : decode cX2_isWord 42 = .ok (.iadd, 1) := by decide +kernel
theorem dX2_isWord_43 : decode cX2_isWord 43 = .ok (.invokevirtual 122, 3) := by decide +kernel
theorem dX2_isWord_46 : decode cX2_isWord 46 = .ok (.aload_n 1, 1) := by decide +kernel
theorem dX2_isWord_47 : decode cX2_isWord 47 = .ok (.iload_n 2, 1) := by decide +kernel
theorem dX2_isWord_48 : decode cX2_isWord 48 = .ok (.invokevirtual 126, 3) := by decide +kernel
theorem dX2_isWord_51 : decode cX2_isWord 51 = .ok (.if_icmp .eq 5, 3) := by decide +kernel
theorem dX2_isWord_54 : decode cX2_isWord 54 = .ok (.iconst 0, 1) := by decide +kernel
theorem dX2_isWord_55 : decode cX2_isWord 55 = .ok (.ireturn, 1) := by decide +kernel
theorem dX2_isWord_56 : decode cX2_isWord 56 = .ok (.iinc 2 1, 3) := by decide +kernel
theorem dX2_isWord_59 : decode cX2_isWord 59 = .ok (.goto (-31), 3) := by decide +kernel
theorem dX2_isWord_62 : decode cX2_isWord 62 = .ok (.iconst 1, 1) := by decide +kernel
theorem dX2_isWord_63 : decode cX2_isWord 63 = .ok (.ireturn, 1) := by decide +kernel
theorem dX2_advance_0 : decode cX2_advance 0 = .ok (.aload_n 0, 1) := by decide +kernel
theorem dX2_advance_1 : decode cX2_advance 1 = .ok (.aload_n 0, 1) := by decide +kernel
theorem dX2_advance_2 : decode cX2_advance 2 = .ok (.getfield 25, 3) := by decide +kernel
theorem dX2_advance_5 : decode cX2_advance 5 = .ok (.putfield 22, 3) := by decide +kernel
theorem dX2_advance_8 : decode cX2_advance 8 = .ok (.aload_n 0, 1) := by decide +kernel
theorem dX2_advance_9 : decode cX2_advance 9 = .ok (.getfield 22, 3) := by decide +kernel
theorem dX2_advance_12 : decode cX2_advance 12 = .ok (.aload_n 0, 1) := by decide +kernel
theorem dX2_advance_13 : decode cX2_advance 13 = .ok (.getfield 9, 3) := by decide +kernel
theorem dX2_advance_16 : decode cX2_advance 16 = .ok (.if_icmp .ge 29, 3) := by decide +kernel
theorem dX2_advance_19 : decode cX2_advance 19 = .ok (.aload_n 0, 1) := by decide +kernel
theorem dX2_advance_20 : decode cX2_advance 20 = .ok (.aload_n 0, 1) := by decide +kernel
theorem dX2_advance_21 : decode cX2_advance 21 = .ok (.getfield 22, 3) := by decide +kernel
theorem dX2_advance_24 : decode cX2_advance 24 = .ok (.invokevirtual 122, 3) := by decide +kernel
theorem dX2_advance_27 : decode cX2_advance 27 = .ok (.bipush 32, 2) := by decide +kernel
theorem dX2_advance_29 : decode cX2_advance 29 = .ok (.if_icmp .ne 16, 3) := by decide +kernel
theorem dX2_advance_32 : decode cX2_advance 32 = .ok (.aload_n 0, 1) := by decide +kernel
theorem dX2_advance_33 : decode cX2_advance 33 = .ok (.dup, 1) := by decide +kernel
theorem dX2_advance_34 : decode cX2_advance 34 = .ok (.getfield 22, 3) := by decide +kernel
theorem dX2_advance_37 : decode cX2_advance 37 = .ok (.iconst 1, 1) := by decide +kernel
theorem dX2_advance_38 : decode cX2_advance 38 = .ok (.iadd, 1) := by decide +kernel
theorem dX2_advance_39 : decode cX2_advance 39 = .ok (.putfield 22, 3) := by decide +kernel
theorem dX2_advance_42 : decode cX2_advance 42 = .ok (.goto (-34), 3) := by decide +kernel
theorem dX2_advance_45 : decode cX2_advance 45 = .ok (.aload_n 0, 1) := by decide +kernel
theorem dX2_advance_46 : decode cX2_advance 46 = .ok (.aload_n 0, 1) := by decide +kernel
theorem dX2_advance_47 : decode cX2_advance 47 = .ok (.aload_n 0, 1) := by decide +kernel
theorem dX2_advance_48 : decode cX2_advance 48 = .ok (.getfield 22, 3) := by decide +kernel
theorem dX2_advance_51 : decode cX2_advance 51 = .ok (.invokevirtual 122, 3) := by decide +kernel
theorem dX2_advance_54 : decode cX2_advance 54 = .ok (.invokestatic 130, 3) := by decide +kernel
theorem dX2_advance_57 : decode cX2_advance 57 = .ok (.putfield 19, 3) := by decide +kernel
theorem dX2_advance_60 : decode cX2_advance 60 = .ok (.aload_n 0, 1) := by decide +kernel
theorem dX2_advance_61 : decode cX2_advance 61 = .ok (.aload_n 0, 1) := by decide +kernel
theorem dX2_advance_62 : decode cX2_advance 62 = .ok (.getfield 22, 3) := by decide +kernel
theorem dX2_advance_65 : decode cX2_advance 65 = .ok (.putfield 25, 3) := by decide +kernel
theorem dX2_advance_68 : decode cX2_advance 68 = .ok (.aload_n 0, 1) := by decide +kernel
theorem dX2_advance_69 : decode cX2_advance 69 = .ok (.iconst 0, 1) := by decide +kernel
theorem dX2_advance_70 : decode cX2_advance 70 = .ok (.putfield 28, 3) := by decide +kernel
theorem dX2_advance_73 : decode cX2_advance 73 = .ok (.aload_n 0, 1) := by decide +kernel
theorem dX2_advance_74 : decode cX2_advance 74 = .ok (.getfield 19, 3) := by decide +kernel
theorem dX2_advance_77 : decode cX2_advance 77 = .ok (.iconst 3, 1) := by decide +kernel
theorem dX2_advance_78 : decode cX2_advance 78 = .ok (.if_icmp .eq 11, 3) := by decide +kernel
theorem dX2_advance_81 : decode cX2_advance 81 = .ok (.aload_n 0, 1) := by decide +kernel
theorem dX2_advance_82 : decode cX2_advance 82 = .ok (.getfield 19, 3) := by decide +kernel
theorem dX2_advance_85 : decode cX2_advance 85 = .ok (.iconst 4, 1) := by decide +kernel
theorem dX2_advance_86 : decode cX2_advance 86 = .ok (.if_icmp .ne 14, 3) := by decide +kernel
theorem dX2_advance_89 : decode cX2_advance 89 = .ok (.aload_n 0, 1) := by decide +kernel
theorem dX2_advance_90 : decode cX2_advance 90 = .ok (.aload_n 0, 1) := by decide +kernel
theorem dX2_advance_91 : decode cX2_advance 91 = .ok (.getfield 22, 3) := by decide +kernel
theorem dX2_advance_94 : decode cX2_advance 94 = .ok (.iconst 1, 1) := by decide +kernel
theorem dX2_advance_95 : decode cX2_advance 95 = .ok (.iadd, 1) := by decide +kernel
theorem dX2_advance_96 : decode cX2_advance 96 = .ok (.putfield 25, 3) := by decide +kernel
theorem dX2_advance_99 : decode cX2_advance 99 = .ok (.return_, 1) := by decide +kernel
theorem dX2_advance_100 : decode cX2_advance 100 = .ok (.aload_n 0, 1) := by decide +kernel
theorem dX2_advance_101 : decode cX2_advance 101 = .ok (.getfield 25, 3) := by decide +kernel
theorem dX2_advance_104 : decode cX2_advance 104 = .ok (.aload_n 0, 1) := by decide +kernel
theorem dX2_advance_105 : decode cX2_advance 105 = .ok (.getfield 9, 3) := by decide +kernel
theorem dX2_advance_108 : decode cX2_advance 108 = .ok (.if_icmp .ge 71, 3) := by decide +kernel
theorem dX2_advance_111 : decode cX2_advance 111 = .ok (.aload_n 0, 1) := by decide +kernel
theorem dX2_advance_112 : decode cX2_advance 112 = .ok (.aload_n 0, 1) := by decide +kernel
theorem dX2_advance_113 : decode cX2_advance 113 = .ok (.getfield 25, 3) := by decide +kernel
theorem dX2_advance_116 : decode cX2_advance 116 = .ok (.invokevirtual 122, 3) := by decide +kernel
theorem dX2_advance_119 : decode cX2_advance 119 = .ok (.invokestatic 130, 3) := by decide +kernel
theorem dX2_advance_122 : decode cX2_advance 122 = .ok (.aload_n 0, 1) := by decide +kernel
theorem dX2_advance_123 : decode cX2_advance 123 = .ok (.getfield 19, 3) := by decide +kernel
theorem dX2_advance_126 : decode cX2_advance 126 = .ok (.if_icmp .ne 53, 3) := by decide +kernel
theorem dX2_advance_129 : decode cX2_advance 129 = .ok (.aload_n 0, 1) := by decide +kernel
theorem dX2_advance_130 : decode cX2_advance 130 = .ok (.getfield 19, 3) := by decide +kernel
theorem dX2_advance_133 : decode cX2_advance 133 = .ok (.iconst 2, 1) := by decide +kernel
theorem dX2_advance_134 : decode cX2_advance 134 = .ok (.if_icmp .ne 32, 3) := by decide +kernel
theorem dX2_advance_137 : decode cX2_advance 137 = .ok (.aload_n 0, 1) := by decide +kernel
theorem dX2_advance_138 : decode cX2_advance 138 = .ok (.bipush 10, 2) := by decide +kernel
theorem dX2_advance_140 : decode cX2_advance 140 = .ok (.aload_n 0, 1) := by decide +kernel
theorem dX2_advance_141 : decode cX2_advance 141 = .ok (.getfield 28, 3) := by decide +kernel
theorem dX2_advance_144 : decode cX2_advance 144 = .ok (.imul, 1) := by decide +kernel
theorem dX2_advance_145 : decode cX2_advance 145 = .ok (.aload_n 0, 1) := by decide +kernel
theorem dX2_advance_146 : decode cX2_advance 146 = .ok (.aload_n 0, 1) := by decide +kernel
theorem dX2_advance_147 : decode cX2_advance 147 = .ok (.getfield 25, 3) := by decide +kernel
theorem dX2_advance_150 : decode cX2_advance 150 = .ok (.invokevirtual 122, 3) := by decide +kernel
theorem dX2_advance_153 : decode cX2_advance 153 = .ok (.iadd, 1) := by decide +kernel
theorem dX2_advance_154 : decode cX2_advance 154 = .ok (.bipush 48, 2) := by decide +kernel
theorem dX2_advance_156 : decode cX2_advance 156 = .ok (.isub, 1) := by decide +kernel
theorem dX2_advance_157 : decode cX2_advance 157 = .ok (.sipush 1000, 3) := by decide +kernel
theorem dX2_advance_160 : decode cX2_advance 160 = .ok (.invokestatic 133, 3) := by decide +kernel
theorem dX2_advance_163 : decode cX2_advance 163 = .ok (.putfield 28, 3) := by decide +kernel
theorem dX2_advance_166 : decode cX2_advance 166 = .ok (.aload_n 0, 1) := by decide +kernel
theorem dX2_advance_167 : decode cX2_advance 167 = .ok (.dup, 1) := by decide +kernel
theorem dX2_advance_168 : decode cX2_advance 168 = .ok (.getfield 25, 3) := by decide +kernel
theorem dX2_advance_171 : decode cX2_advance 171 = .ok (.iconst 1, 1) := by decide +kernel
theorem dX2_advance_172 : decode cX2_advance 172 = .ok (.iadd, 1) := by decide +kernel
theorem dX2_advance_173 : decode cX2_advance 173 = .ok (.putfield 25, 3) := by decide +kernel
theorem dX2_advance_176 : decode cX2_advance 176 = .ok (.goto (-76), 3) := by decide +kernel
theorem dX2_advance_179 : decode cX2_advance 179 = .ok (.return_, 1) := by decide +kernel
theorem dX2_byteAt_0 : decode cX2_byteAt 0 = .ok (.iload_n 1, 1) := by decide +kernel
theorem dX2_byteAt_1 : decode cX2_byteAt 1 = .ok (.ifCond .lt 26, 3) := by decide +kernel
theorem dX2_byteAt_4 : decode cX2_byteAt 4 = .ok (.iload_n 1, 1) := by decide +kernel
theorem dX2_byteAt_5 : decode cX2_byteAt 5 = .ok (.aload_n 0, 1) := by decide +kernel
theorem dX2_byteAt_6 : decode cX2_byteAt 6 = .ok (.getfield 9, 3) := by decide +kernel
theorem dX2_byteAt_9 : decode cX2_byteAt 9 = .ok (.if_icmp .ge 18, 3) := by decide +kernel
theorem dX2_byteAt_12 : decode cX2_byteAt 12 = .ok (.iload_n 1, 1) := by decide +kernel
theorem dX2_byteAt_13 : decode cX2_byteAt 13 = .ok (.bipush 120, 2) := by decide +kernel
theorem dX2_byteAt_15 : decode cX2_byteAt 15 = .ok (.if_icmp .ge 12, 3) := by decide +kernel
theorem dX2_byteAt_18 : decode cX2_byteAt 18 = .ok (.aload_n 0, 1) := by decide +kernel
theorem dX2_byteAt_19 : decode cX2_byteAt 19 = .ok (.getfield 15, 3) := by decide +kernel
theorem dX2_byteAt_22 : decode cX2_byteAt 22 = .ok (.iload_n 1, 1) := by decide +kernel
theorem dX2_byteAt_23 : decode cX2_byteAt 23 = .ok (.iaload, 1) := by decide +kernel
theorem dX2_byteAt_24 : decode cX2_byteAt 24 = .ok (.goto 4, 3) := by decide +kernel
theorem dX2_byteAt_27 : decode cX2_byteAt 27 = .ok (.iconst (-1), 1) := by decide +kernel
theorem dX2_byteAt_28 : decode cX2_byteAt 28 = .ok (.ireturn, 1) := by decide +kernel
theorem dX2_tokenOf_0 : decode cX2_tokenOf 0 = .ok (.iload_n 0, 1) := by decide +kernel
theorem dX2_tokenOf_1 : decode cX2_tokenOf 1 = .ok (.ifCond .ge 5, 3) := by decide +kernel
theorem dX2_tokenOf_4 : decode cX2_tokenOf 4 = .ok (.iconst 0, 1) := by decide +kernel
theorem dX2_tokenOf_5 : decode cX2_tokenOf 5 = .ok (.ireturn, 1) := by decide +kernel
theorem dX2_tokenOf_6 : decode cX2_tokenOf 6 = .ok (.iload_n 0, 1) := by decide +kernel
theorem dX2_tokenOf_7 : decode cX2_tokenOf 7 = .ok (.bipush 97, 2) := by decide +kernel
theorem dX2_tokenOf_9 : decode cX2_tokenOf 9 = .ok (.if_icmp .lt 11, 3) := by decide +kernel
theorem dX2_tokenOf_12 : decode cX2_tokenOf 12 = .ok (.iload_n 0, 1) := by decide +kernel
theorem dX2_tokenOf_13 : decode cX2_tokenOf 13 = .ok (.bipush 122, 2) := by decide +kernel
theorem dX2_tokenOf_15 : decode cX2_tokenOf 15 = .ok (.if_icmp .gt 5, 3) := by decide +kernel
theorem dX2_tokenOf_18 : decode cX2_tokenOf 18 = .ok (.iconst 1, 1) := by decide +kernel
theorem dX2_tokenOf_19 : decode cX2_tokenOf 19 = .ok (.ireturn, 1) := by decide +kernel
theorem dX2_tokenOf_20 : decode cX2_tokenOf 20 = .ok (.iload_n 0, 1) := by decide +kernel
theorem dX2_tokenOf_21 : decode cX2_tokenOf 21 = .ok (.bipush 48, 2) := by decide +kernel
theorem dX2_tokenOf_23 : decode cX2_tokenOf 23 = .ok (.if_icmp .lt 11, 3) := by decide +kernel
theorem dX2_tokenOf_26 : decode cX2_tokenOf 26 = .ok (.iload_n 0, 1) := by decide +kernel
theorem dX2_tokenOf_27 : decode cX2_tokenOf 27 = .ok (.bipush 57, 2) := by decide +kernel
theorem dX2_tokenOf_29 : decode cX2_tokenOf 29 = .ok (.if_icmp .gt 5, 3) := by decide +kernel
theorem dX2_tokenOf_32 : decode cX2_tokenOf 32 = .ok (.iconst 2, 1) := by decide +kernel
theorem dX2_tokenOf_33 : decode cX2_tokenOf 33 = .ok (.ireturn, 1) := by decide +kernel
theorem dX2_tokenOf_34 : decode cX2_tokenOf 34 = .ok (.iload_n 0, 1) := by decide +kernel
theorem dX2_tokenOf_35 : decode cX2_tokenOf 35 = .ok (.bipush 59, 2) := by decide +kernel
theorem dX2_tokenOf_37 : decode cX2_tokenOf 37 = .ok (.if_icmp .ne 7, 3) := by decide +kernel
theorem dX2_tokenOf_40 : decode cX2_tokenOf 40 = .ok (.iconst 3, 1) := by decide +kernel
theorem dX2_tokenOf_41 : decode cX2_tokenOf 41 = .ok (.goto 4, 3) := by decide +kernel
theorem dX2_tokenOf_44 : decode cX2_tokenOf 44 = .ok (.iconst 4, 1) := by decide +kernel
theorem dX2_tokenOf_45 : decode cX2_tokenOf 45 = .ok (.ireturn, 1) := by decide +kernel
theorem dJ6_bitCount_0f7a4_0 : decode cJ6_bitCount_0f7a4 0 = .ok (.iload_n 0, 1) := by decide +kernel
theorem dJ6_bitCount_0f7a4_1 : decode cJ6_bitCount_0f7a4 1 = .ok (.iload_n 0, 1) := by decide +kernel
theorem dJ6_bitCount_0f7a4_2 : decode cJ6_bitCount_0f7a4 2 = .ok (.iconst 1, 1) := by decide +kernel
theorem dJ6_bitCount_0f7a4_3 : decode cJ6_bitCount_0f7a4 3 = .ok (.iushr, 1) := by decide +kernel
theorem dJ6_bitCount_0f7a4_4 : decode cJ6_bitCount_0f7a4 4 = .ok (.ldc_w 265, 3) := by decide +kernel
theorem dJ6_bitCount_0f7a4_7 : decode cJ6_bitCount_0f7a4 7 = .ok (.iand, 1) := by decide +kernel
theorem dJ6_bitCount_0f7a4_8 : decode cJ6_bitCount_0f7a4 8 = .ok (.isub, 1) := by decide +kernel
theorem dJ6_bitCount_0f7a4_9 : decode cJ6_bitCount_0f7a4 9 = .ok (.istore_n 0, 1) := by decide +kernel
theorem dJ6_bitCount_0f7a4_10 : decode cJ6_bitCount_0f7a4 10 = .ok (.iload_n 0, 1) := by decide +kernel
theorem dJ6_bitCount_0f7a4_11 : decode cJ6_bitCount_0f7a4 11 = .ok (.ldc_w 266, 3) := by decide +kernel
theorem dJ6_bitCount_0f7a4_14 : decode cJ6_bitCount_0f7a4 14 = .ok (.iand, 1) := by decide +kernel
theorem dJ6_bitCount_0f7a4_15 : decode cJ6_bitCount_0f7a4 15 = .ok (.iload_n 0, 1) := by decide +kernel
theorem dJ6_bitCount_0f7a4_16 : decode cJ6_bitCount_0f7a4 16 = .ok (.iconst 2, 1) := by decide +kernel
theorem dJ6_bitCount_0f7a4_17 : decode cJ6_bitCount_0f7a4 17 = .ok (.iushr, 1) := by decide +kernel
theorem dJ6_bitCount_0f7a4_18 : decode cJ6_bitCount_0f7a4 18 = .ok (.ldc_w 266, 3) := by decide +kernel
theorem dJ6_bitCount_0f7a4_21 : decode cJ6_bitCount_0f7a4 21 = .ok (.iand, 1) := by decide +kernel
theorem dJ6_bitCount_0f7a4_22 : decode cJ6_bitCount_0f7a4 22 = .ok (.iadd, 1) := by decide +kernel
theorem dJ6_bitCount_0f7a4_23 : decode cJ6_bitCount_0f7a4 23 = .ok (.istore_n 0, 1) := by decide +kernel
theorem dJ6_bitCount_0f7a4_24 : decode cJ6_bitCount_0f7a4 24 = .ok (.iload_n 0, 1) := by decide +kernel
theorem dJ6_bitCount_0f7a4_25 : decode cJ6_bitCount_0f7a4 25 = .ok (.iload_n 0, 1) := by decide +kernel
theorem dJ6_bitCount_0f7a4_26 : decode cJ6_bitCount_0f7a4 26 = .ok (.iconst 4, 1) := by decide +kernel
theorem dJ6_bitCount_0f7a4_27 : decode cJ6_bitCount_0f7a4 27 = .ok (.iushr, 1) := by decide +kernel
theorem dJ6_bitCount_0f7a4_28 : decode cJ6_bitCount_0f7a4 28 = .ok (.iadd, 1) := by decide +kernel
theorem dJ6_bitCount_0f7a4_29 : decode cJ6_bitCount_0f7a4 29 = .ok (.ldc_w 267, 3) := by decide +kernel
theorem dJ6_bitCount_0f7a4_32 : decode cJ6_bitCount_0f7a4 32 = .ok (.iand, 1) := by decide +kernel
theorem dJ6_bitCount_0f7a4_33 : decode cJ6_bitCount_0f7a4 33 = .ok (.istore_n 0, 1) := by decide +kernel
theorem dJ6_bitCount_0f7a4_34 : decode cJ6_bitCount_0f7a4 34 = .ok (.iload_n 0, 1) := by decide +kernel
theorem dJ6_bitCount_0f7a4_35 : decode cJ6_bitCount_0f7a4 35 = .ok (.iload_n 0, 1) := by decide +kernel
theorem dJ6_bitCount_0f7a4_36 : decode cJ6_bitCount_0f7a4 36 = .ok (.bipush 8, 2) := by decide +kernel
theorem dJ6_bitCount_0f7a4_38 : decode cJ6_bitCount_0f7a4 38 = .ok (.iushr, 1) := by decide +kernel
theorem dJ6_bitCount_0f7a4_39 : decode cJ6_bitCount_0f7a4 39 = .ok (.iadd, 1) := by decide +kernel
theorem dJ6_bitCount_0f7a4_40 : decode cJ6_bitCount_0f7a4 40 = .ok (.istore_n 0, 1) := by decide +kernel
theorem dJ6_bitCount_0f7a4_41 : decode cJ6_bitCount_0f7a4 41 = .ok (.iload_n 0, 1) := by decide +kernel
theorem dJ6_bitCount_0f7a4_42 : decode cJ6_bitCount_0f7a4 42 = .ok (.iload_n 0, 1) := by decide +kernel
theorem dJ6_bitCount_0f7a4_43 : decode cJ6_bitCount_0f7a4 43 = .ok (.bipush 16, 2) := by decide +kernel
theorem dJ6_bitCount_0f7a4_45 : decode cJ6_bitCount_0f7a4 45 = .ok (.iushr, 1) := by decide +kernel
theorem dJ6_bitCount_0f7a4_46 : decode cJ6_bitCount_0f7a4 46 = .ok (.iadd, 1) := by decide +kernel
theorem dJ6_bitCount_0f7a4_47 : decode cJ6_bitCount_0f7a4 47 = .ok (.istore_n 0, 1) := by decide +kernel
theorem dJ6_bitCount_0f7a4_48 : decode cJ6_bitCount_0f7a4 48 = .ok (.iload_n 0, 1) := by decide +kernel
theorem dJ6_bitCount_0f7a4_49 : decode cJ6_bitCount_0f7a4 49 = .ok (.bipush 63, 2) := by decide +kernel
theorem dJ6_bitCount_0f7a4_51 : decode cJ6_bitCount_0f7a4 51 = .ok (.iand, 1) := by decide +kernel
theorem dJ6_bitCount_0f7a4_52 : decode cJ6_bitCount_0f7a4 52 = .ok (.ireturn, 1) := by decide +kernel
theorem dJ9_abs_0f7a4_0 : decode cJ9_abs_0f7a4 0 = .ok (.iload_n 0, 1) := by decide +kernel
theorem dJ9_abs_0f7a4_1 : decode cJ9_abs_0f7a4 1 = .ok (.ifCond .ge 8, 3) := by decide +kernel
theorem dJ9_abs_0f7a4_4 : decode cJ9_abs_0f7a4 4 = .ok (.iload_n 0, 1) := by decide +kernel
theorem dJ9_abs_0f7a4_5 : decode cJ9_abs_0f7a4 5 = .ok (.ineg, 1) := by decide +kernel
theorem dJ9_abs_0f7a4_6 : decode cJ9_abs_0f7a4 6 = .ok (.goto 4, 3) := by decide +kernel
theorem dJ9_abs_0f7a4_9 : decode cJ9_abs_0f7a4 9 = .ok (.iload_n 0, 1) := by decide +kernel
theorem dJ9_abs_0f7a4_10 : decode cJ9_abs_0f7a4 10 = .ok (.ireturn, 1) := by decide +kernel
theorem dJ9_max_7cf53_0 : decode cJ9_max_7cf53 0 = .ok (.iload_n 0, 1) := by decide +kernel
theorem dJ9_max_7cf53_1 : decode cJ9_max_7cf53 1 = .ok (.iload_n 1, 1) := by decide +kernel
theorem dJ9_max_7cf53_2 : decode cJ9_max_7cf53 2 = .ok (.if_icmp .lt 7, 3) := by decide +kernel
theorem dJ9_max_7cf53_5 : decode cJ9_max_7cf53 5 = .ok (.iload_n 0, 1) := by decide +kernel
theorem dJ9_max_7cf53_6 : decode cJ9_max_7cf53 6 = .ok (.goto 4, 3) := by decide +kernel
theorem dJ9_max_7cf53_9 : decode cJ9_max_7cf53 9 = .ok (.iload_n 1, 1) := by decide +kernel
theorem dJ9_max_7cf53_10 : decode cJ9_max_7cf53 10 = .ok (.ireturn, 1) := by decide +kernel
theorem dJ9_min_7cf53_0 : decode cJ9_min_7cf53 0 = .ok (.iload_n 0, 1) := by decide +kernel
theorem dJ9_min_7cf53_1 : decode cJ9_min_7cf53 1 = .ok (.iload_n 1, 1) := by decide +kernel
theorem dJ9_min_7cf53_2 : decode cJ9_min_7cf53 2 = .ok (.if_icmp .gt 7, 3) := by decide +kernel
theorem dJ9_min_7cf53_5 : decode cJ9_min_7cf53 5 = .ok (.iload_n 0, 1) := by decide +kernel
theorem dJ9_min_7cf53_6 : decode cJ9_min_7cf53 6 = .ok (.goto 4, 3) := by decide +kernel
theorem dJ9_min_7cf53_9 : decode cJ9_min_7cf53 9 = .ok (.iload_n 1, 1) := by decide +kernel
theorem dJ9_min_7cf53_10 : decode cJ9_min_7cf53 10 = .ok (.ireturn, 1) := by decide +kernel
theorem dJ0_length_8abf5_0 : decode cJ0_length_8abf5 0 = .ok (.aload_n 0, 1) := by decide +kernel
theorem dJ0_length_8abf5_1 : decode cJ0_length_8abf5 1 = .ok (.getfield 9, 3) := by decide +kernel
theorem dJ0_length_8abf5_4 : decode cJ0_length_8abf5 4 = .ok (.arraylength, 1) := by decide +kernel
theorem dJ0_length_8abf5_5 : decode cJ0_length_8abf5 5 = .ok (.aload_n 0, 1) := by decide +kernel
theorem dJ0_length_8abf5_6 : decode cJ0_length_8abf5 6 = .ok (.invokevirtual 335, 3) := by decide +kernel
theorem dJ0_length_8abf5_9 : decode cJ0_length_8abf5 9 = .ok (.ishr, 1) := by decide +kernel
theorem dJ0_length_8abf5_10 : decode cJ0_length_8abf5 10 = .ok (.ireturn, 1) := by decide +kernel
theorem dJ0_charAt_5068e_0 : decode cJ0_charAt_5068e 0 = .ok (.aload_n 0, 1) := by decide +kernel
theorem dJ0_charAt_5068e_1 : decode cJ0_charAt_5068e 1 = .ok (.invokevirtual 492, 3) := by decide +kernel
theorem dJ0_charAt_5068e_4 : decode cJ0_charAt_5068e 4 = .ok (.ifCond .eq 12, 3) := by decide +kernel
theorem dJ0_charAt_5068e_7 : decode cJ0_charAt_5068e 7 = .ok (.aload_n 0, 1) := by decide +kernel
theorem dJ0_charAt_5068e_8 : decode cJ0_charAt_5068e 8 = .ok (.getfield 9, 3) := by decide +kernel
theorem dJ0_charAt_5068e_11 : decode cJ0_charAt_5068e 11 = .ok (.iload_n 1, 1) := by decide +kernel
theorem dJ0_charAt_5068e_12 : decode cJ0_charAt_5068e 12 = .ok (.invokestatic 495, 3) := by decide +kernel
theorem dJ0_charAt_5068e_15 : decode cJ0_charAt_5068e 15 = .ok (.ireturn, 1) := by decide +kernel
theorem dJ0_charAt_5068e_16 : decode cJ0_charAt_5068e 16 = .ok (.aload_n 0, 1) := by decide +kernel
theorem dJ0_charAt_5068e_17 : decode cJ0_charAt_5068e 17 = .ok (.getfield 9, 3) := by decide +kernel
theorem dJ0_charAt_5068e_20 : decode cJ0_charAt_5068e 20 = .ok (.iload_n 1, 1) := by decide +kernel
theorem dJ0_charAt_5068e_21 : decode cJ0_charAt_5068e 21 = .ok (.invokestatic 498, 3) := by decide +kernel
theorem dJ0_charAt_5068e_24 : decode cJ0_charAt_5068e 24 = .ok (.ireturn, 1) := by decide +kernel
theorem dJ0_coder_7d493_0 : decode cJ0_coder_7d493 0 = .ok (.getstatic 38, 3) := by decide +kernel
theorem dJ0_coder_7d493_3 : decode cJ0_coder_7d493 3 = .ok (.ifCond .eq 10, 3) := by decide +kernel
theorem dJ0_coder_7d493_6 : decode cJ0_coder_7d493 6 = .ok (.aload_n 0, 1) := by decide +kernel
theorem dJ0_coder_7d493_7 : decode cJ0_coder_7d493 7 = .ok (.getfield 15, 3) := by decide +kernel
theorem dJ0_coder_7d493_10 : decode cJ0_coder_7d493 10 = .ok (.goto 4, 3) := by decide +kernel
theorem dJ0_coder_7d493_13 : decode cJ0_coder_7d493 13 = .ok (.iconst 1, 1) := by decide +kernel
theorem dJ0_coder_7d493_14 : decode cJ0_coder_7d493 14 = .ok (.ireturn, 1) := by decide +kernel
theorem dJ0_isLatin1_aae02_0 : decode cJ0_isLatin1_aae02 0 = .ok (.getstatic 38, 3) := by decide +kernel
theorem dJ0_isLatin1_aae02_3 : decode cJ0_isLatin1_aae02 3 = .ok (.ifCond .eq 14, 3) := by decide +kernel
theorem dJ0_isLatin1_aae02_6 : decode cJ0_isLatin1_aae02 6 = .ok (.aload_n 0, 1) := by decide +kernel
theorem dJ0_isLatin1_aae02_7 : decode cJ0_isLatin1_aae02 7 = .ok (.getfield 15, 3) := by decide +kernel
theorem dJ0_isLatin1_aae02_10 : decode cJ0_isLatin1_aae02 10 = .ok (.ifCond .ne 7, 3) := by decide +kernel
theorem dJ0_isLatin1_aae02_13 : decode cJ0_isLatin1_aae02 13 = .ok (.iconst 1, 1) := by decide +kernel
theorem dJ0_isLatin1_aae02_14 : decode cJ0_isLatin1_aae02 14 = .ok (.goto 4, 3) := by decide +kernel
theorem dJ0_isLatin1_aae02_17 : decode cJ0_isLatin1_aae02 17 = .ok (.iconst 0, 1) := by decide +kernel
theorem dJ0_isLatin1_aae02_18 : decode cJ0_isLatin1_aae02 18 = .ok (.ireturn, 1) := by decide +kernel
theorem dJ0_checkIndex_df160_0 : decode cJ0_checkIndex_df160 0 = .ok (.iload_n 0, 1) := by decide +kernel
theorem dJ0_checkIndex_df160_1 : decode cJ0_checkIndex_df160 1 = .ok (.iload_n 1, 1) := by decide +kernel
theorem dJ0_checkIndex_df160_2 : decode cJ0_checkIndex_df160 2 = .ok (.getstatic 1053, 3) := by decide +kernel
theorem dJ0_checkIndex_df160_5 : decode cJ0_checkIndex_df160 5 = .ok (.invokestatic 1059, 3) := by decide +kernel
theorem dJ0_checkIndex_df160_8 : decode cJ0_checkIndex_df160 8 = .ok (.pop, 1) := by decide +kernel
theorem dJ0_checkIndex_df160_9 : decode cJ0_checkIndex_df160 9 = .ok (.return_, 1) := by decide +kernel
theorem dJ1_charAt_3b067_0 : decode cJ1_charAt_3b067 0 = .ok (.iload_n 1, 1) := by decide +kernel
theorem dJ1_charAt_3b067_1 : decode cJ1_charAt_3b067 1 = .ok (.aload_n 0, 1) := by decide +kernel
theorem dJ1_charAt_3b067_2 : decode cJ1_charAt_3b067 2 = .ok (.arraylength, 1) := by decide +kernel
theorem dJ1_charAt_3b067_3 : decode cJ1_charAt_3b067 3 = .ok (.invokestatic 9, 3) := by decide +kernel
theorem dJ1_charAt_3b067_6 : decode cJ1_charAt_3b067 6 = .ok (.aload_n 0, 1) := by decide +kernel
theorem dJ1_charAt_3b067_7 : decode cJ1_charAt_3b067 7 = .ok (.iload_n 1, 1) := by decide +kernel
theorem dJ1_charAt_3b067_8 : decode cJ1_charAt_3b067 8 = .ok (.baload, 1) := by decide +kernel
theorem dJ1_charAt_3b067_9 : decode cJ1_charAt_3b067 9 = .ok (.sipush 255, 3) := by decide +kernel
theorem dJ1_charAt_3b067_12 : decode cJ1_charAt_3b067 12 = .ok (.iand, 1) := by decide +kernel
theorem dJ1_charAt_3b067_13 : decode cJ1_charAt_3b067 13 = .ok (.i2c, 1) := by decide +kernel
theorem dJ1_charAt_3b067_14 : decode cJ1_charAt_3b067 14 = .ok (.ireturn, 1) := by decide +kernel
theorem dJ2_getChar_3b067_0 : decode cJ2_getChar_3b067 0 = .ok (.getstatic 44, 3) := by decide +kernel
theorem dJ2_getChar_3b067_3 : decode cJ2_getChar_3b067 3 = .ok (.ifCond .ne 25, 3) := by decide +kernel
theorem dJ2_getChar_3b067_6 : decode cJ2_getChar_3b067 6 = .ok (.iload_n 1, 1) := by decide +kernel
theorem dJ2_getChar_3b067_7 : decode cJ2_getChar_3b067 7 = .ok (.ifCond .lt 11, 3) := by decide +kernel
theorem dJ2_getChar_3b067_10 : decode cJ2_getChar_3b067 10 = .ok (.iload_n 1, 1) := by decide +kernel
theorem dJ2_getChar_3b067_11 : decode cJ2_getChar_3b067 11 = .ok (.aload_n 0, 1) := by decide +kernel
theorem dJ2_getChar_3b067_12 : decode cJ2_getChar_3b067 12 = .ok (.invokestatic 48, 3) := by decide +kernel
theorem dJ2_getChar_3b067_15 : decode cJ2_getChar_3b067 15 = .ok (.if_icmp .lt 13, 3) := by decide +kernel
theorem dJ2_getChar_3b067_18 : decode cJ2_getChar_3b067 18 = .ok (.new 52, 3) := by decide +kernel
theorem dJ2_getChar_3b067_21 : decode cJ2_getChar_3b067 21 = .ok (.dup, 1) := by decide +kernel
theorem dJ2_getChar_3b067_22 : decode cJ2_getChar_3b067 22 = .ok (.ldc 54, 2) := by decide +kernel
theorem dJ2_getChar_3b067_24 : decode cJ2_getChar_3b067 24 = .ok (.invokespecial 56, 3) := by decide +kernel
theorem dJ2_getChar_3b067_27 : decode cJ2_getChar_3b067 27 = .ok (.athrow, 1) := by decide +kernel
theorem dJ2_getChar_3b067_28 : decode cJ2_getChar_3b067 28 = .ok (.iload_n 1, 1) := by decide +kernel
theorem dJ2_getChar_3b067_29 : decode cJ2_getChar_3b067 29 = .ok (.iconst 1, 1) := by decide +kernel
theorem dJ2_getChar_3b067_30 : decode cJ2_getChar_3b067 30 = .ok (.ishl, 1) := by decide +kernel
theorem dJ2_getChar_3b067_31 : decode cJ2_getChar_3b067 31 = .ok (.istore_n 1, 1) := by decide +kernel
theorem dJ2_getChar_3b067_32 : decode cJ2_getChar_3b067 32 = .ok (.aload_n 0, 1) := by decide +kernel
theorem dJ2_getChar_3b067_33 : decode cJ2_getChar_3b067 33 = .ok (.iload_n 1, 1) := by decide +kernel
theorem dJ2_getChar_3b067_34 : decode cJ2_getChar_3b067 34 = .ok (.iinc 1 1, 3) := by decide +kernel
theorem dJ2_getChar_3b067_37 : decode cJ2_getChar_3b067 37 = .ok (.baload, 1) := by decide +kernel
theorem dJ2_getChar_3b067_38 : decode cJ2_getChar_3b067 38 = .ok (.sipush 255, 3) := by decide +kernel
theorem dJ2_getChar_3b067_41 : decode cJ2_getChar_3b067 41 = .ok (.iand, 1) := by decide +kernel
theorem dJ2_getChar_3b067_42 : decode cJ2_getChar_3b067 42 = .ok (.getstatic 59, 3) := by decide +kernel
theorem dJ2_getChar_3b067_45 : decode cJ2_getChar_3b067 45 = .ok (.ishl, 1) := by decide +kernel
theorem dJ2_getChar_3b067_46 : decode cJ2_getChar_3b067 46 = .ok (.aload_n 0, 1) := by decide +kernel
theorem dJ2_getChar_3b067_47 : decode cJ2_getChar_3b067 47 = .ok (.iload_n 1, 1) := by decide +kernel
theorem dJ2_getChar_3b067_48 : decode cJ2_getChar_3b067 48 = .ok (.baload, 1) := by decide +kernel
theorem dJ2_getChar_3b067_49 : decode cJ2_getChar_3b067 49 = .ok (.sipush 255, 3) := by decide +kernel
theorem dJ2_getChar_3b067_52 : decode cJ2_getChar_3b067 52 = .ok (.iand, 1) := by decide +kernel
theorem dJ2_getChar_3b067_53 : decode cJ2_getChar_3b067 53 = .ok (.getstatic 63, 3) := by decide +kernel
theorem dJ2_getChar_3b067_56 : decode cJ2_getChar_3b067 56 = .ok (.ishl, 1) := by decide +kernel
theorem dJ2_getChar_3b067_57 : decode cJ2_getChar_3b067 57 = .ok (.ior, 1) := by decide +kernel
theorem dJ2_getChar_3b067_58 : decode cJ2_getChar_3b067 58 = .ok (.i2c, 1) := by decide +kernel
theorem dJ2_getChar_3b067_59 : decode cJ2_getChar_3b067 59 = .ok (.ireturn, 1) := by decide +kernel
theorem dJ2_length_9d52b_0 : decode cJ2_length_9d52b 0 = .ok (.aload_n 0, 1) := by decide +kernel
theorem dJ2_length_9d52b_1 : decode cJ2_length_9d52b 1 = .ok (.arraylength, 1) := by decide +kernel
theorem dJ2_length_9d52b_2 : decode cJ2_length_9d52b 2 = .ok (.iconst 1, 1) := by decide +kernel
theorem dJ2_length_9d52b_3 : decode cJ2_length_9d52b 3 = .ok (.ishr, 1) := by decide +kernel
theorem dJ2_length_9d52b_4 : decode cJ2_length_9d52b 4 = .ok (.ireturn, 1) := by decide +kernel
theorem dJ2_charAt_3b067_0 : decode cJ2_charAt_3b067 0 = .ok (.iload_n 1, 1) := by decide +kernel
theorem dJ2_charAt_3b067_1 : decode cJ2_charAt_3b067 1 = .ok (.aload_n 0, 1) := by decide +kernel
theorem dJ2_charAt_3b067_2 : decode cJ2_charAt_3b067 2 = .ok (.invokestatic 67, 3) := by decide +kernel
theorem dJ2_charAt_3b067_5 : decode cJ2_charAt_3b067 5 = .ok (.aload_n 0, 1) := by decide +kernel
theorem dJ2_charAt_3b067_6 : decode cJ2_charAt_3b067 6 = .ok (.iload_n 1, 1) := by decide +kernel
theorem dJ2_charAt_3b067_7 : decode cJ2_charAt_3b067 7 = .ok (.invokestatic 71, 3) := by decide +kernel
theorem dJ2_charAt_3b067_10 : decode cJ2_charAt_3b067 10 = .ok (.ireturn, 1) := by decide +kernel
theorem dJ2_checkIndex_2214a_0 : decode cJ2_checkIndex_2214a 0 = .ok (.iload_n 0, 1) := by decide +kernel
theorem dJ2_checkIndex_2214a_1 : decode cJ2_checkIndex_2214a 1 = .ok (.aload_n 1, 1) := by decide +kernel
theorem dJ2_checkIndex_2214a_2 : decode cJ2_checkIndex_2214a 2 = .ok (.invokestatic 48, 3) := by decide +kernel
theorem dJ2_checkIndex_2214a_5 : decode cJ2_checkIndex_2214a 5 = .ok (.invokestatic 414, 3) := by decide +kernel
theorem dJ2_checkIndex_2214a_8 : decode cJ2_checkIndex_2214a 8 = .ok (.return_, 1) := by decide +kernel
theorem dJ3_checkIndex_8e157_0 : decode cJ3_checkIndex_8e157 0 = .ok (.iload_n 0, 1) := by decide +kernel
theorem dJ3_checkIndex_8e157_1 : decode cJ3_checkIndex_8e157 1 = .ok (.ifCond .lt 8, 3) := by decide +kernel
theorem dJ3_checkIndex_8e157_4 : decode cJ3_checkIndex_8e157 4 = .ok (.iload_n 0, 1) := by decide +kernel
theorem dJ3_checkIndex_8e157_5 : decode cJ3_checkIndex_8e157 5 = .ok (.iload_n 1, 1) := by decide +kernel
theorem dJ3_checkIndex_8e157_6 : decode cJ3_checkIndex_8e157 6 = .ok (.if_icmp .lt 10, 3) := by decide +kernel
theorem dJ3_checkIndex_8e157_9 : decode cJ3_checkIndex_8e157 9 = .ok (.aload_n 2, 1) := by decide +kernel
theorem dJ3_checkIndex_8e157_10 : decode cJ3_checkIndex_8e157 10 = .ok (.iload_n 0, 1) := by decide +kernel
theorem dJ3_checkIndex_8e157_11 : decode cJ3_checkIndex_8e157 11 = .ok (.iload_n 1, 1) := by decide +kernel
theorem dJ3_checkIndex_8e157_12 : decode cJ3_checkIndex_8e157 12 = .ok (.invokestatic 95, 3) := by decide +kernel
theorem dJ3_checkIndex_8e157_15 : decode cJ3_checkIndex_8e157 15 = .ok (.athrow, 1) := by decide +kernel
theorem dJ3_checkIndex_8e157_16 : decode cJ3_checkIndex_8e157 16 = .ok (.iload_n 0, 1) := by decide +kernel
theorem dJ3_checkIndex_8e157_17 : decode cJ3_checkIndex_8e157 17 = .ok (.ireturn, 1) := by decide +kernel
