theorem dEV_init_0 : decode cEV_init 0 = .ok (.aload_n 0, 1) := by decide +kernel
theorem dEV_init_1 : decode cEV_init 1 = .ok (.invokespecial 1, 3) := by decide +kernel
theorem dEV_init_4 : decode cEV_init 4 = .ok (.aload_n 0, 1) := by decide +kernel
theorem dEV_init_5 : decode cEV_init 5 = .ok (.new 7, 3) := by decide +kernel
theorem dEV_init_8 : decode cEV_init 8 = .ok (.dup, 1) := by decide +kernel
theorem dEV_init_9 : decode cEV_init 9 = .ok (.invokespecial 9, 3) := by decide +kernel
theorem dEV_init_12 : decode cEV_init 12 = .ok (.putfield 10, 3) := by decide +kernel
theorem dEV_init_15 : decode cEV_init 15 = .ok (.aload_n 0, 1) := by decide +kernel
theorem dEV_init_16 : decode cEV_init 16 = .ok (.new 16, 3) := by decide +kernel
theorem dEV_init_19 : decode cEV_init 19 = .ok (.dup, 1) := by decide +kernel
theorem dEV_init_20 : decode cEV_init 20 = .ok (.invokespecial 18, 3) := by decide +kernel
theorem dEV_init_23 : decode cEV_init 23 = .ok (.putfield 19, 3) := by decide +kernel
theorem dEV_init_26 : decode cEV_init 26 = .ok (.aload_n 0, 1) := by decide +kernel
theorem dEV_init_27 : decode cEV_init 27 = .ok (.new 23, 3) := by decide +kernel
theorem dEV_init_30 : decode cEV_init 30 = .ok (.dup, 1) := by decide +kernel
theorem dEV_init_31 : decode cEV_init 31 = .ok (.invokespecial 25, 3) := by decide +kernel
theorem dEV_init_34 : decode cEV_init 34 = .ok (.putfield 26, 3) := by decide +kernel
theorem dEV_init_37 : decode cEV_init 37 = .ok (.aload_n 0, 1) := by decide +kernel
theorem dEV_init_38 : decode cEV_init 38 = .ok (.new 30, 3) := by decide +kernel
theorem dEV_init_41 : decode cEV_init 41 = .ok (.dup, 1) := by decide +kernel
theorem dEV_init_42 : decode cEV_init 42 = .ok (.invokespecial 32, 3) := by decide +kernel
theorem dEV_init_45 : decode cEV_init 45 = .ok (.putfield 33, 3) := by decide +kernel
theorem dEV_init_48 : decode cEV_init 48 = .ok (.aload_n 0, 1) := by decide +kernel
theorem dEV_init_49 : decode cEV_init 49 = .ok (.bipush 8, 2) := by decide +kernel
theorem dEV_init_51 : decode cEV_init 51 = .ok (.anewarray 37, 3) := by decide +kernel
theorem dEV_init_54 : decode cEV_init 54 = .ok (.putfield 39, 3) := by decide +kernel
theorem dEV_init_57 : decode cEV_init 57 = .ok (.aload_n 0, 1) := by decide +kernel
theorem dEV_init_58 : decode cEV_init 58 = .ok (.iconst 0, 1) := by decide +kernel
theorem dEV_init_59 : decode cEV_init 59 = .ok (.putfield 43, 3) := by decide +kernel
theorem dEV_init_62 : decode cEV_init 62 = .ok (.aload_n 0, 1) := by decide +kernel
theorem dEV_init_63 : decode cEV_init 63 = .ok (.aconst_null, 1) := by decide +kernel
theorem dEV_init_64 : decode cEV_init 64 = .ok (.putfield 47, 3) := by decide +kernel
theorem dEV_init_67 : decode cEV_init 67 = .ok (.aload_n 0, 1) := by decide +kernel
theorem dEV_init_68 : decode cEV_init 68 = .ok (.iconst 0, 1) := by decide +kernel
theorem dEV_init_69 : decode cEV_init 69 = .ok (.putfield 51, 3) := by decide +kernel
theorem dEV_init_72 : decode cEV_init 72 = .ok (.return_, 1) := by decide +kernel
theorem dEV_coin_0 : decode cEV_coin 0 = .ok (.iload_n 1, 1) := by decide +kernel
theorem dEV_coin_1 : decode cEV_coin 1 = .ok (.invokestatic 54, 3) := by decide +kernel
theorem dEV_coin_4 : decode cEV_coin 4 = .ok (.ifCond .eq 15, 3) := by decide +kernel
theorem dEV_coin_7 : decode cEV_coin 7 = .ok (.aload_n 0, 1) := by decide +kernel
theorem dEV_coin_8 : decode cEV_coin 8 = .ok (.getfield 10, 3) := by decide +kernel
theorem dEV_coin_11 : decode cEV_coin 11 = .ok (.getfield 58, 3) := by decide +kernel
theorem dEV_coin_14 : decode cEV_coin 14 = .ok (.bipush 64, 2) := by decide +kernel
theorem dEV_coin_16 : decode cEV_coin 16 = .ok (.if_icmp .lt 5, 3) := by decide +kernel
theorem dEV_coin_19 : decode cEV_coin 19 = .ok (.iconst 0, 1) := by decide +kernel
theorem dEV_coin_20 : decode cEV_coin 20 = .ok (.ireturn, 1) := by decide +kernel
theorem dEV_coin_21 : decode cEV_coin 21 = .ok (.aload_n 0, 1) := by decide +kernel
theorem dEV_coin_22 : decode cEV_coin 22 = .ok (.getfield 10, 3) := by decide +kernel
theorem dEV_coin_25 : decode cEV_coin 25 = .ok (.iload_n 1, 1) := by decide +kernel
theorem dEV_coin_26 : decode cEV_coin 26 = .ok (.invokevirtual 61, 3) := by decide +kernel
theorem dEV_coin_29 : decode cEV_coin 29 = .ok (.iconst 1, 1) := by decide +kernel
theorem dEV_coin_30 : decode cEV_coin 30 = .ok (.ireturn, 1) := by decide +kernel
theorem dEV_isByte_0 : decode cEV_isByte 0 = .ok (.iload_n 0, 1) := by decide +kernel
theorem dEV_isByte_1 : decode cEV_isByte 1 = .ok (.ifCond .lt 14, 3) := by decide +kernel
theorem dEV_isByte_4 : decode cEV_isByte 4 = .ok (.iload_n 0, 1) := by decide +kernel
theorem dEV_isByte_5 : decode cEV_isByte 5 = .ok (.sipush 255, 3) := by decide +kernel
theorem dEV_isByte_8 : decode cEV_isByte 8 = .ok (.if_icmp .gt 7, 3) := by decide +kernel
theorem dEV_isByte_11 : decode cEV_isByte 11 = .ok (.iconst 1, 1) := by decide +kernel
theorem dEV_isByte_12 : decode cEV_isByte 12 = .ok (.goto 4, 3) := by decide +kernel
theorem dEV_isByte_15 : decode cEV_isByte 15 = .ok (.iconst 0, 1) := by decide +kernel
theorem dEV_isByte_16 : decode cEV_isByte 16 = .ok (.ireturn, 1) := by decide +kernel
theorem dEV_coins_0 : decode cEV_coins 0 = .ok (.aload_n 0, 1) := by decide +kernel
theorem dEV_coins_1 : decode cEV_coins 1 = .ok (.getfield 10, 3) := by decide +kernel
theorem dEV_coins_4 : decode cEV_coins 4 = .ok (.getfield 58, 3) := by decide +kernel
theorem dEV_coins_7 : decode cEV_coins 7 = .ok (.ireturn, 1) := by decide +kernel
theorem dEV_times_0 : decode cEV_times 0 = .ok (.iload_n 1, 1) := by decide +kernel
theorem dEV_times_1 : decode cEV_times 1 = .ok (.invokestatic 54, 3) := by decide +kernel
theorem dEV_times_4 : decode cEV_times 4 = .ok (.ifCond .eq 10, 3) := by decide +kernel
theorem dEV_times_7 : decode cEV_times 7 = .ok (.iload_n 2, 1) := by decide +kernel
theorem dEV_times_8 : decode cEV_times 8 = .ok (.invokestatic 54, 3) := by decide +kernel
theorem dEV_times_11 : decode cEV_times 11 = .ok (.ifCond .ne 5, 3) := by decide +kernel
theorem dEV_times_14 : decode cEV_times 14 = .ok (.iconst (-1), 1) := by decide +kernel
theorem dEV_times_15 : decode cEV_times 15 = .ok (.ireturn, 1) := by decide +kernel
theorem dEV_times_16 : decode cEV_times 16 = .ok (.iload_n 1, 1) := by decide +kernel
theorem dEV_times_17 : decode cEV_times 17 = .ok (.iload_n 2, 1) := by decide +kernel
theorem dEV_times_18 : decode cEV_times 18 = .ok (.invokestatic 65, 3) := by decide +kernel
theorem dEV_times_21 : decode cEV_times 21 = .ok (.ireturn, 1) := by decide +kernel
theorem dEV_rotate_0 : decode cEV_rotate 0 = .ok (.aload_n 0, 1) := by decide +kernel
theorem dEV_rotate_1 : decode cEV_rotate 1 = .ok (.getfield 43, 3) := by decide +kernel
theorem dEV_rotate_4 : decode cEV_rotate 4 = .ok (.bipush 8, 2) := by decide +kernel
theorem dEV_rotate_6 : decode cEV_rotate 6 = .ok (.if_icmp .ge 14, 3) := by decide +kernel
theorem dEV_rotate_9 : decode cEV_rotate 9 = .ok (.aload_n 0, 1) := by decide +kernel
theorem dEV_rotate_10 : decode cEV_rotate 10 = .ok (.getfield 19, 3) := by decide +kernel
theorem dEV_rotate_13 : decode cEV_rotate 13 = .ok (.iconst 1, 1) := by decide +kernel
theorem dEV_rotate_14 : decode cEV_rotate 14 = .ok (.invokevirtual 71, 3) := by decide +kernel
theorem dEV_rotate_17 : decode cEV_rotate 17 = .ok (.ifCond .ne 6, 3) := by decide +kernel
theorem dEV_rotate_20 : decode cEV_rotate 20 = .ok (.bipush (-2), 2) := by decide +kernel
theorem dEV_rotate_22 : decode cEV_rotate 22 = .ok (.ireturn, 1) := by decide +kernel
theorem dEV_rotate_23 : decode cEV_rotate 23 = .ok (.aload_n 0, 1) := by decide +kernel
theorem dEV_rotate_24 : decode cEV_rotate 24 = .ok (.getfield 10, 3) := by decide +kernel
theorem dEV_rotate_27 : decode cEV_rotate 27 = .ok (.getfield 58, 3) := by decide +kernel
theorem dEV_rotate_30 : decode cEV_rotate 30 = .ok (.iconst 4, 1) := by decide +kernel
theorem dEV_rotate_31 : decode cEV_rotate 31 = .ok (.if_icmp .ge 6, 3) := by decide +kernel
theorem dEV_rotate_34 : decode cEV_rotate 34 = .ok (.bipush (-3), 2) := by decide +kernel
theorem dEV_rotate_36 : decode cEV_rotate 36 = .ok (.ireturn, 1) := by decide +kernel
theorem dEV_rotate_37 : decode cEV_rotate 37 = .ok (.iconst 0, 1) := by decide +kernel
theorem dEV_rotate_38 : decode cEV_rotate 38 = .ok (.istore_n 1, 1) := by decide +kernel
theorem dEV_rotate_39 : decode cEV_rotate 39 = .ok (.aload_n 0, 1) := by decide +kernel
theorem dEV_rotate_40 : decode cEV_rotate 40 = .ok (.getfield 47, 3) := by decide +kernel
theorem dEV_rotate_43 : decode cEV_rotate 43 = .ok (.ifnull 21, 3) := by decide +kernel
theorem dEV_rotate_46 : decode cEV_rotate 46 = .ok (.aload_n 0, 1) := by decide +kernel
theorem dEV_rotate_47 : decode cEV_rotate 47 = .ok (.getfield 47, 3) := by decide +kernel
theorem dEV_rotate_50 : decode cEV_rotate 50 = .ok (.iconst 2, 1) := by decide +kernel
theorem dEV_rotate_51 : decode cEV_rotate 51 = .ok (.putfield 74, 3) := by decide +kernel
theorem dEV_rotate_54 : decode cEV_rotate 54 = .ok (.iconst 1, 1) := by decide +kernel
theorem dEV_rotate_55 : decode cEV_rotate 55 = .ok (.aload_n 0, 1) := by decide +kernel
theorem dEV_rotate_56 : decode cEV_rotate 56 = .ok (.getfield 47, 3) := by decide +kernel
theorem dEV_rotate_59 : decode cEV_rotate 59 = .ok (.getfield 77, 3) := by decide +kernel
theorem dEV_rotate_62 : decode cEV_rotate 62 = .ok (.iadd, 1) := by decide +kernel
theorem dEV_rotate_63 : decode cEV_rotate 63 = .ok (.istore_n 1, 1) := by decide +kernel
theorem dEV_rotate_64 : decode cEV_rotate 64 = .ok (.aload_n 0, 1) := by decide +kernel
theorem dEV_rotate_65 : decode cEV_rotate 65 = .ok (.new 37, 3) := by decide +kernel
theorem dEV_rotate_68 : decode cEV_rotate 68 = .ok (.dup, 1) := by decide +kernel
theorem dEV_rotate_69 : decode cEV_rotate 69 = .ok (.aload_n 0, 1) := by decide +kernel
theorem dEV_rotate_70 : decode cEV_rotate 70 = .ok (.getfield 43, 3) := by decide +kernel
theorem dEV_rotate_73 : decode cEV_rotate 73 = .ok (.aload_n 0, 1) := by decide +kernel
theorem dEV_rotate_74 : decode cEV_rotate 74 = .ok (.getfield 10, 3) := by decide +kernel
theorem dEV_rotate_77 : decode cEV_rotate 77 = .ok (.invokevirtual 80, 3) := by decide +kernel
theorem dEV_rotate_80 : decode cEV_rotate 80 = .ok (.invokespecial 84, 3) := by decide +kernel
theorem dEV_rotate_83 : decode cEV_rotate 83 = .ok (.putfield 47, 3) := by decide +kernel
theorem dEV_rotate_86 : decode cEV_rotate 86 = .ok (.aload_n 0, 1) := by decide +kernel
theorem dEV_rotate_87 : decode cEV_rotate 87 = .ok (.getfield 39, 3) := by decide +kernel
theorem dEV_rotate_90 : decode cEV_rotate 90 = .ok (.aload_n 0, 1) := by decide +kernel
theorem dEV_rotate_91 : decode cEV_rotate 91 = .ok (.getfield 43, 3) := by decide +kernel
theorem dEV_rotate_94 : decode cEV_rotate 94 = .ok (.aload_n 0, 1) := by decide +kernel
theorem dEV_rotate_95 : decode cEV_rotate 95 = .ok (.getfield 47, 3) := by decide +kernel
theorem dEV_rotate_98 : decode cEV_rotate 98 = .ok (.aastore, 1) := by decide +kernel
theorem dEV_rotate_99 : decode cEV_rotate 99 = .ok (.aload_n 0, 1) := by decide +kernel
theorem dEV_rotate_100 : decode cEV_rotate 100 = .ok (.dup, 1) := by decide +kernel
theorem dEV_rotate_101 : decode cEV_rotate 101 = .ok (.getfield 43, 3) := by decide +kernel
theorem dEV_rotate_104 : decode cEV_rotate 104 = .ok (.iconst 1, 1) := by decide +kernel
theorem dEV_rotate_105 : decode cEV_rotate 105 = .ok (.iadd, 1) := by decide +kernel
theorem dEV_rotate_106 : decode cEV_rotate 106 = .ok (.putfield 43, 3) := by decide +kernel
theorem dEV_rotate_109 : decode cEV_rotate 109 = .ok (.aload_n 0, 1) := by decide +kernel
theorem dEV_rotate_110 : decode cEV_rotate 110 = .ok (.getfield 19, 3) := by decide +kernel
theorem dEV_rotate_113 : decode cEV_rotate 113 = .ok (.iconst 1, 1) := by decide +kernel
theorem dEV_rotate_114 : decode cEV_rotate 114 = .ok (.aload_n 0, 1) := by decide +kernel
theorem dEV_rotate_115 : decode cEV_rotate 115 = .ok (.getfield 47, 3) := by decide +kernel
theorem dEV_rotate_118 : decode cEV_rotate 118 = .ok (.getfield 77, 3) := by decide +kernel
theorem dEV_rotate_121 : decode cEV_rotate 121 = .ok (.iload_n 1, 1) := by decide +kernel
theorem dEV_rotate_122 : decode cEV_rotate 122 = .ok (.invokevirtual 87, 3) := by decide +kernel
theorem dEV_rotate_125 : decode cEV_rotate 125 = .ok (.aload_n 0, 1) := by decide +kernel
theorem dEV_rotate_126 : decode cEV_rotate 126 = .ok (.getfield 47, 3) := by decide +kernel
theorem dEV_rotate_129 : decode cEV_rotate 129 = .ok (.getfield 77, 3) := by decide +kernel
theorem dEV_rotate_132 : decode cEV_rotate 132 = .ok (.ireturn, 1) := by decide +kernel
theorem dEV_mix_0 : decode cEV_mix 0 = .ok (.iload_n 0, 1) := by decide +kernel
theorem dEV_mix_1 : decode cEV_mix 1 = .ok (.iload_n 1, 1) := by decide +kernel
theorem dEV_mix_2 : decode cEV_mix 2 = .ok (.ixor, 1) := by decide +kernel
theorem dEV_mix_3 : decode cEV_mix 3 = .ok (.ldc 195, 2) := by decide +kernel
theorem dEV_mix_5 : decode cEV_mix 5 = .ok (.imul, 1) := by decide +kernel
theorem dEV_mix_6 : decode cEV_mix 6 = .ok (.ldc 196, 2) := by decide +kernel
theorem dEV_mix_8 : decode cEV_mix 8 = .ok (.iadd, 1) := by decide +kernel
theorem dEV_mix_9 : decode cEV_mix 9 = .ok (.istore_n 2, 1) := by decide +kernel
theorem dEV_mix_10 : decode cEV_mix 10 = .ok (.iload_n 2, 1) := by decide +kernel
theorem dEV_mix_11 : decode cEV_mix 11 = .ok (.iload_n 2, 1) := by decide +kernel
theorem dEV_mix_12 : decode cEV_mix 12 = .ok (.bipush 15, 2) := by decide +kernel
theorem dEV_mix_14 : decode cEV_mix 14 = .ok (.iushr, 1) := by decide +kernel
theorem dEV_mix_15 : decode cEV_mix 15 = .ok (.ixor, 1) := by decide +kernel
theorem dEV_mix_16 : decode cEV_mix 16 = .ok (.ireturn, 1) := by decide +kernel
theorem dEV_destroy_0 : decode cEV_destroy 0 = .ok (.aload_n 0, 1) := by decide +kernel
theorem dEV_destroy_1 : decode cEV_destroy 1 = .ok (.iload_n 1, 1) := by decide +kernel
theorem dEV_destroy_2 : decode cEV_destroy 2 = .ok (.invokevirtual 91, 3) := by decide +kernel
theorem dEV_destroy_5 : decode cEV_destroy 5 = .ok (.astore_n 2, 1) := by decide +kernel
theorem dEV_destroy_6 : decode cEV_destroy 6 = .ok (.aload_n 2, 1) := by decide +kernel
theorem dEV_destroy_7 : decode cEV_destroy 7 = .ok (.ifnonnull 5, 3) := by decide +kernel
theorem dEV_destroy_10 : decode cEV_destroy 10 = .ok (.iconst (-1), 1) := by decide +kernel
theorem dEV_destroy_11 : decode cEV_destroy 11 = .ok (.ireturn, 1) := by decide +kernel
theorem dEV_destroy_12 : decode cEV_destroy 12 = .ok (.aload_n 2, 1) := by decide +kernel
theorem dEV_destroy_13 : decode cEV_destroy 13 = .ok (.getfield 74, 3) := by decide +kernel
theorem dEV_destroy_16 : decode cEV_destroy 16 = .ok (.iconst 3, 1) := by decide +kernel
theorem dEV_destroy_17 : decode cEV_destroy 17 = .ok (.if_icmp .ne 6, 3) := by decide +kernel
theorem dEV_destroy_20 : decode cEV_destroy 20 = .ok (.bipush (-6), 2) := by decide +kernel
theorem dEV_destroy_22 : decode cEV_destroy 22 = .ok (.ireturn, 1) := by decide +kernel
theorem dEV_destroy_23 : decode cEV_destroy 23 = .ok (.aload_n 0, 1) := by decide +kernel
theorem dEV_destroy_24 : decode cEV_destroy 24 = .ok (.getfield 19, 3) := by decide +kernel
theorem dEV_destroy_27 : decode cEV_destroy 27 = .ok (.iconst 1, 1) := by decide +kernel
theorem dEV_destroy_28 : decode cEV_destroy 28 = .ok (.invokevirtual 71, 3) := by decide +kernel
theorem dEV_destroy_31 : decode cEV_destroy 31 = .ok (.ifCond .ne 6, 3) := by decide +kernel
theorem dEV_destroy_34 : decode cEV_destroy 34 = .ok (.bipush (-2), 2) := by decide +kernel
theorem dEV_destroy_36 : decode cEV_destroy 36 = .ok (.ireturn, 1) := by decide +kernel
theorem dEV_destroy_37 : decode cEV_destroy 37 = .ok (.aload_n 2, 1) := by decide +kernel
theorem dEV_destroy_38 : decode cEV_destroy 38 = .ok (.getfield 74, 3) := by decide +kernel
theorem dEV_destroy_41 : decode cEV_destroy 41 = .ok (.istore_n 3, 1) := by decide +kernel
theorem dEV_destroy_42 : decode cEV_destroy 42 = .ok (.aload_n 2, 1) := by decide +kernel
theorem dEV_destroy_43 : decode cEV_destroy 43 = .ok (.invokevirtual 95, 3) := by decide +kernel
theorem dEV_destroy_46 : decode cEV_destroy 46 = .ok (.iload_n 3, 1) := by decide +kernel
theorem dEV_destroy_47 : decode cEV_destroy 47 = .ok (.iconst 1, 1) := by decide +kernel
theorem dEV_destroy_48 : decode cEV_destroy 48 = .ok (.if_icmp .ne 8, 3) := by decide +kernel
theorem dEV_destroy_51 : decode cEV_destroy 51 = .ok (.aload_n 0, 1) := by decide +kernel
theorem dEV_destroy_52 : decode cEV_destroy 52 = .ok (.aconst_null, 1) := by decide +kernel
theorem dEV_destroy_53 : decode cEV_destroy 53 = .ok (.putfield 47, 3) := by decide +kernel
theorem dEV_destroy_56 : decode cEV_destroy 56 = .ok (.aload_n 0, 1) := by decide +kernel
theorem dEV_destroy_57 : decode cEV_destroy 57 = .ok (.getfield 19, 3) := by decide +kernel
theorem dEV_destroy_60 : decode cEV_destroy 60 = .ok (.iconst 2, 1) := by decide +kernel
theorem dEV_destroy_61 : decode cEV_destroy 61 = .ok (.iload_n 1, 1) := by decide +kernel
theorem dEV_destroy_62 : decode cEV_destroy 62 = .ok (.iload_n 3, 1) := by decide +kernel
theorem dEV_destroy_63 : decode cEV_destroy 63 = .ok (.invokevirtual 87, 3) := by decide +kernel
theorem dEV_destroy_66 : decode cEV_destroy 66 = .ok (.iload_n 3, 1) := by decide +kernel
theorem dEV_destroy_67 : decode cEV_destroy 67 = .ok (.ireturn, 1) := by decide +kernel
theorem dEV_find_0 : decode cEV_find 0 = .ok (.iload_n 1, 1) := by decide +kernel
theorem dEV_find_1 : decode cEV_find 1 = .ok (.ifCond .lt 11, 3) := by decide +kernel
theorem dEV_find_4 : decode cEV_find 4 = .ok (.iload_n 1, 1) := by decide +kernel
theorem dEV_find_5 : decode cEV_find 5 = .ok (.aload_n 0, 1) := by decide +kernel
theorem dEV_find_6 : decode cEV_find 6 = .ok (.getfield 43, 3) := by decide +kernel
theorem dEV_find_9 : decode cEV_find 9 = .ok (.if_icmp .lt 7, 3) := by decide +kernel
theorem dEV_find_12 : decode cEV_find 12 = .ok (.aconst_null, 1) := by decide +kernel
theorem dEV_find_13 : decode cEV_find 13 = .ok (.goto 9, 3) := by decide +kernel
theorem dEV_find_16 : decode cEV_find 16 = .ok (.aload_n 0, 1) := by decide +kernel
theorem dEV_find_17 : decode cEV_find 17 = .ok (.getfield 39, 3) := by decide +kernel
theorem dEV_find_20 : decode cEV_find 20 = .ok (.iload_n 1, 1) := by decide +kernel
theorem dEV_find_21 : decode cEV_find 21 = .ok (.aaload, 1) := by decide +kernel
theorem dEV_find_22 : decode cEV_find 22 = .ok (.areturn, 1) := by decide +kernel
theorem dEV_split_0 : decode cEV_split 0 = .ok (.aload_n 0, 1) := by decide +kernel
theorem dEV_split_1 : decode cEV_split 1 = .ok (.iload_n 1, 1) := by decide +kernel
theorem dEV_split_2 : decode cEV_split 2 = .ok (.invokevirtual 91, 3) := by decide +kernel
theorem dEV_split_5 : decode cEV_split 5 = .ok (.astore 4, 2) := by decide +kernel
theorem dEV_split_7 : decode cEV_split 7 = .ok (.aload 4, 2) := by decide +kernel
theorem dEV_split_9 : decode cEV_split 9 = .ok (.ifnull 11, 3) := by decide +kernel
theorem dEV_split_12 : decode cEV_split 12 = .ok (.iload_n 2, 1) := by decide +kernel
theorem dEV_split_13 : decode cEV_split 13 = .ok (.iload_n 3, 1) := by decide +kernel
theorem dEV_split_14 : decode cEV_split 14 = .ok (.invokestatic 98, 3) := by decide +kernel
theorem dEV_split_17 : decode cEV_split 17 = .ok (.ifCond .ne 5, 3) := by decide +kernel
theorem dEV_split_20 : decode cEV_split 20 = .ok (.iconst (-1), 1) := by decide +kernel
theorem dEV_split_21 : decode cEV_split 21 = .ok (.ireturn, 1) := by decide +kernel
theorem dEV_split_22 : decode cEV_split 22 = .ok (.aload 4, 2) := by decide +kernel
theorem dEV_split_24 : decode cEV_split 24 = .ok (.getfield 74, 3) := by decide +kernel
theorem dEV_split_27 : decode cEV_split 27 = .ok (.iconst 3, 1) := by decide +kernel
theorem dEV_split_28 : decode cEV_split 28 = .ok (.if_icmp .ne 6, 3) := by decide +kernel
theorem dEV_split_31 : decode cEV_split 31 = .ok (.bipush (-6), 2) := by decide +kernel
theorem dEV_split_33 : decode cEV_split 33 = .ok (.ireturn, 1) := by decide +kernel
theorem dEV_split_34 : decode cEV_split 34 = .ok (.aload 4, 2) := by decide +kernel
theorem dEV_split_36 : decode cEV_split 36 = .ok (.getfield 102, 3) := by decide +kernel
theorem dEV_split_39 : decode cEV_split 39 = .ok (.ifCond .eq 6, 3) := by decide +kernel
theorem dEV_split_42 : decode cEV_split 42 = .ok (.bipush (-7), 2) := by decide +kernel
theorem dEV_split_44 : decode cEV_split 44 = .ok (.ireturn, 1) := by decide +kernel
theorem dEV_split_45 : decode cEV_split 45 = .ok (.aload_n 0, 1) := by decide +kernel
theorem dEV_split_46 : decode cEV_split 46 = .ok (.getfield 19, 3) := by decide +kernel
theorem dEV_split_49 : decode cEV_split 49 = .ok (.iconst 1, 1) := by decide +kernel
theorem dEV_split_50 : decode cEV_split 50 = .ok (.invokevirtual 71, 3) := by decide +kernel
theorem dEV_split_53 : decode cEV_split 53 = .ok (.ifCond .ne 6, 3) := by decide +kernel
theorem dEV_split_56 : decode cEV_split 56 = .ok (.bipush (-2), 2) := by decide +kernel
theorem dEV_split_58 : decode cEV_split 58 = .ok (.ireturn, 1) := by decide +kernel
theorem dEV_split_59 : decode cEV_split 59 = .ok (.aload_n 0, 1) := by decide +kernel
theorem dEV_split_60 : decode cEV_split 60 = .ok (.getfield 10, 3) := by decide +kernel
theorem dEV_split_63 : decode cEV_split 63 = .ok (.getfield 58, 3) := by decide +kernel
theorem dEV_split_66 : decode cEV_split 66 = .ok (.iconst 4, 1) := by decide +kernel
theorem dEV_split_67 : decode cEV_split 67 = .ok (.iload_n 2, 1) := by decide +kernel
theorem dEV_split_68 : decode cEV_split 68 = .ok (.iconst 1, 1) := by decide +kernel
theorem dEV_split_69 : decode cEV_split 69 = .ok (.isub, 1) := by decide +kernel
theorem dEV_split_70 : decode cEV_split 70 = .ok (.imul, 1) := by decide +kernel
theorem dEV_split_71 : decode cEV_split 71 = .ok (.if_icmp .ge 6, 3) := by decide +kernel
theorem dEV_split_74 : decode cEV_split 74 = .ok (.bipush (-3), 2) := by decide +kernel
theorem dEV_split_76 : decode cEV_split 76 = .ok (.ireturn, 1) := by decide +kernel
theorem dEV_split_77 : decode cEV_split 77 = .ok (.aload_n 0, 1) := by decide +kernel
theorem dEV_split_78 : decode cEV_split 78 = .ok (.getfield 33, 3) := by decide +kernel
theorem dEV_split_81 : decode cEV_split 81 = .ok (.aload 4, 2) := by decide +kernel
theorem dEV_split_83 : decode cEV_split 83 = .ok (.getfield 106, 3) := by decide +kernel
theorem dEV_split_86 : decode cEV_split 86 = .ok (.iload_n 2, 1) := by decide +kernel
theorem dEV_split_87 : decode cEV_split 87 = .ok (.iload_n 3, 1) := by decide +kernel
theorem dEV_split_88 : decode cEV_split 88 = .ok (.aload_n 0, 1) := by decide +kernel
theorem dEV_split_89 : decode cEV_split 89 = .ok (.getfield 10, 3) := by decide +kernel
theorem dEV_split_92 : decode cEV_split 92 = .ok (.invokevirtual 109, 3) := by decide +kernel
theorem dEV_split_95 : decode cEV_split 95 = .ok (.aload 4, 2) := by decide +kernel
theorem dEV_split_97 : decode cEV_split 97 = .ok (.iload_n 2, 1) := by decide +kernel
theorem dEV_split_98 : decode cEV_split 98 = .ok (.iload_n 3, 1) := by decide +kernel
theorem dEV_split_99 : decode cEV_split 99 = .ok (.aload_n 0, 1) := by decide +kernel
theorem dEV_split_100 : decode cEV_split 100 = .ok (.getfield 33, 3) := by decide +kernel
theorem dEV_split_103 : decode cEV_split 103 = .ok (.invokevirtual 113, 3) := by decide +kernel
theorem dEV_split_106 : decode cEV_split 106 = .ok (.aload_n 0, 1) := by decide +kernel
theorem dEV_split_107 : decode cEV_split 107 = .ok (.getfield 19, 3) := by decide +kernel
theorem dEV_split_110 : decode cEV_split 110 = .ok (.iconst 3, 1) := by decide +kernel
theorem dEV_split_111 : decode cEV_split 111 = .ok (.iload_n 1, 1) := by decide +kernel
theorem dEV_split_112 : decode cEV_split 112 = .ok (.aload 4, 2) := by decide +kernel
theorem dEV_split_114 : decode cEV_split 114 = .ok (.invokevirtual 117, 3) := by decide +kernel
theorem dEV_split_117 : decode cEV_split 117 = .ok (.invokevirtual 87, 3) := by decide +kernel
theorem dEV_split_120 : decode cEV_split 120 = .ok (.iload_n 3, 1) := by decide +kernel
theorem dEV_split_121 : decode cEV_split 121 = .ok (.ireturn, 1) := by decide +kernel
theorem dEV_isEscrow_0 : decode cEV_isEscrow 0 = .ok (.iload_n 0, 1) := by decide +kernel
theorem dEV_isEscrow_1 : decode cEV_isEscrow 1 = .ok (.iconst 1, 1) := by decide +kernel
theorem dEV_isEscrow_2 : decode cEV_isEscrow 2 = .ok (.if_icmp .lt 18, 3) := by decide +kernel
theorem dEV_isEscrow_5 : decode cEV_isEscrow 5 = .ok (.iload_n 0, 1) := by decide +kernel
theorem dEV_isEscrow_6 : decode cEV_isEscrow 6 = .ok (.iload_n 1, 1) := by decide +kernel
theorem dEV_isEscrow_7 : decode cEV_isEscrow 7 = .ok (.if_icmp .gt 13, 3) := by decide +kernel
theorem dEV_isEscrow_10 : decode cEV_isEscrow 10 = .ok (.iload_n 1, 1) := by decide +kernel
theorem dEV_isEscrow_11 : decode cEV_isEscrow 11 = .ok (.bipush 8, 2) := by decide +kernel
theorem dEV_isEscrow_13 : decode cEV_isEscrow 13 = .ok (.if_icmp .gt 7, 3) := by decide +kernel
theorem dEV_isEscrow_16 : decode cEV_isEscrow 16 = .ok (.iconst 1, 1) := by decide +kernel
theorem dEV_isEscrow_17 : decode cEV_isEscrow 17 = .ok (.goto 4, 3) := by decide +kernel
theorem dEV_isEscrow_20 : decode cEV_isEscrow 20 = .ok (.iconst 0, 1) := by decide +kernel
theorem dEV_isEscrow_21 : decode cEV_isEscrow 21 = .ok (.ireturn, 1) := by decide +kernel
theorem dEV_digest_0 : decode cEV_digest 0 = .ok (.iconst 5, 1) := by decide +kernel
theorem dEV_digest_1 : decode cEV_digest 1 = .ok (.iload_n 0, 1) := by decide +kernel
theorem dEV_digest_2 : decode cEV_digest 2 = .ok (.invokestatic 197, 3) := by decide +kernel
theorem dEV_digest_5 : decode cEV_digest 5 = .ok (.iload_n 1, 1) := by decide +kernel
theorem dEV_digest_6 : decode cEV_digest 6 = .ok (.invokestatic 197, 3) := by decide +kernel
theorem dEV_digest_9 : decode cEV_digest 9 = .ok (.ireturn, 1) := by decide +kernel
theorem dEV_share_0 : decode cEV_share 0 = .ok (.iload_n 1, 1) := by decide +kernel
theorem dEV_share_1 : decode cEV_share 1 = .ok (.iconst 1, 1) := by decide +kernel
theorem dEV_share_2 : decode cEV_share 2 = .ok (.if_icmp .lt 14, 3) := by decide +kernel
theorem dEV_share_5 : decode cEV_share 5 = .ok (.iload_n 1, 1) := by decide +kernel
theorem dEV_share_6 : decode cEV_share 6 = .ok (.aload_n 0, 1) := by decide +kernel
theorem dEV_share_7 : decode cEV_share 7 = .ok (.getfield 33, 3) := by decide +kernel
theorem dEV_share_10 : decode cEV_share 10 = .ok (.getfield 120, 3) := by decide +kernel
theorem dEV_share_13 : decode cEV_share 13 = .ok (.if_icmp .le 5, 3) := by decide +kernel
theorem dEV_share_16 : decode cEV_share 16 = .ok (.iconst 0, 1) := by decide +kernel
theorem dEV_share_17 : decode cEV_share 17 = .ok (.ireturn, 1) := by decide +kernel
theorem dEV_share_18 : decode cEV_share 18 = .ok (.aload_n 0, 1) := by decide +kernel
theorem dEV_share_19 : decode cEV_share 19 = .ok (.getfield 33, 3) := by decide +kernel
theorem dEV_share_22 : decode cEV_share 22 = .ok (.getfield 121, 3) := by decide +kernel
theorem dEV_share_25 : decode cEV_share 25 = .ok (.iload_n 1, 1) := by decide +kernel
theorem dEV_share_26 : decode cEV_share 26 = .ok (.iaload, 1) := by decide +kernel
theorem dEV_share_27 : decode cEV_share 27 = .ok (.ireturn, 1) := by decide +kernel
theorem dEV_lock_0 : decode cEV_lock 0 = .ok (.aload_n 0, 1) := by decide +kernel
theorem dEV_lock_1 : decode cEV_lock 1 = .ok (.iload_n 1, 1) := by decide +kernel
theorem dEV_lock_2 : decode cEV_lock 2 = .ok (.invokevirtual 91, 3) := by decide +kernel
theorem dEV_lock_5 : decode cEV_lock 5 = .ok (.astore_n 2, 1) := by decide +kernel
theorem dEV_lock_6 : decode cEV_lock 6 = .ok (.aload_n 2, 1) := by decide +kernel
theorem dEV_lock_7 : decode cEV_lock 7 = .ok (.ifnonnull 5, 3) := by decide +kernel
theorem dEV_lock_10 : decode cEV_lock 10 = .ok (.iconst (-1), 1) := by decide +kernel
theorem dEV_lock_11 : decode cEV_lock 11 = .ok (.ireturn, 1) := by decide +kernel
theorem dEV_lock_12 : decode cEV_lock 12 = .ok (.aload_n 2, 1) := by decide +kernel
theorem dEV_lock_13 : decode cEV_lock 13 = .ok (.getfield 74, 3) := by decide +kernel
theorem dEV_lock_16 : decode cEV_lock 16 = .ok (.iconst 3, 1) := by decide +kernel
theorem dEV_lock_17 : decode cEV_lock 17 = .ok (.if_icmp .ne 6, 3) := by decide +kernel
theorem dEV_lock_20 : decode cEV_lock 20 = .ok (.bipush (-6), 2) := by decide +kernel
theorem dEV_lock_22 : decode cEV_lock 22 = .ok (.ireturn, 1) := by decide +kernel
theorem dEV_lock_23 : decode cEV_lock 23 = .ok (.aload_n 2, 1) := by decide +kernel
theorem dEV_lock_24 : decode cEV_lock 24 = .ok (.getfield 102, 3) := by decide +kernel
theorem dEV_lock_27 : decode cEV_lock 27 = .ok (.ifCond .eq 6, 3) := by decide +kernel
theorem dEV_lock_30 : decode cEV_lock 30 = .ok (.bipush (-7), 2) := by decide +kernel
theorem dEV_lock_32 : decode cEV_lock 32 = .ok (.ireturn, 1) := by decide +kernel
theorem dEV_lock_33 : decode cEV_lock 33 = .ok (.aload_n 2, 1) := by decide +kernel
theorem dEV_lock_34 : decode cEV_lock 34 = .ok (.getfield 125, 3) := by decide +kernel
theorem dEV_lock_37 : decode cEV_lock 37 = .ok (.ifCond .ne 6, 3) := by decide +kernel
theorem dEV_lock_40 : decode cEV_lock 40 = .ok (.bipush (-4), 2) := by decide +kernel
theorem dEV_lock_42 : decode cEV_lock 42 = .ok (.ireturn, 1) := by decide +kernel
theorem dEV_lock_43 : decode cEV_lock 43 = .ok (.aload_n 0, 1) := by decide +kernel
theorem dEV_lock_44 : decode cEV_lock 44 = .ok (.getfield 19, 3) := by decide +kernel
theorem dEV_lock_47 : decode cEV_lock 47 = .ok (.iconst 1, 1) := by decide +kernel
theorem dEV_lock_48 : decode cEV_lock 48 = .ok (.invokevirtual 71, 3) := by decide +kernel
theorem dEV_lock_51 : decode cEV_lock 51 = .ok (.ifCond .ne 6, 3) := by decide +kernel
theorem dEV_lock_54 : decode cEV_lock 54 = .ok (.bipush (-2), 2) := by decide +kernel
theorem dEV_lock_56 : decode cEV_lock 56 = .ok (.ireturn, 1) := by decide +kernel
theorem dEV_lock_57 : decode cEV_lock 57 = .ok (.aload_n 2, 1) := by decide +kernel
theorem dEV_lock_58 : decode cEV_lock 58 = .ok (.invokevirtual 128, 3) := by decide +kernel
theorem dEV_lock_61 : decode cEV_lock 61 = .ok (.aload_n 0, 1) := by decide +kernel
theorem dEV_lock_62 : decode cEV_lock 62 = .ok (.getfield 19, 3) := by decide +kernel
theorem dEV_lock_65 : decode cEV_lock 65 = .ok (.iconst 4, 1) := by decide +kernel
theorem dEV_lock_66 : decode cEV_lock 66 = .ok (.iload_n 1, 1) := by decide +kernel
theorem dEV_lock_67 : decode cEV_lock 67 = .ok (.iconst 0, 1) := by decide +kernel
theorem dEV_lock_68 : decode cEV_lock 68 = .ok (.invokevirtual 87, 3) := by decide +kernel
theorem dEV_lock_71 : decode cEV_lock 71 = .ok (.aload_n 2, 1) := by decide +kernel
theorem dEV_lock_72 : decode cEV_lock 72 = .ok (.getfield 125, 3) := by decide +kernel
theorem dEV_lock_75 : decode cEV_lock 75 = .ok (.ireturn, 1) := by decide +kernel
theorem dEV_give_0 : decode cEV_give 0 = .ok (.aload_n 0, 1) := by decide +kernel
theorem dEV_give_1 : decode cEV_give 1 = .ok (.iload_n 1, 1) := by decide +kernel
theorem dEV_give_2 : decode cEV_give 2 = .ok (.invokevirtual 91, 3) := by decide +kernel
theorem dEV_give_5 : decode cEV_give 5 = .ok (.astore 4, 2) := by decide +kernel
theorem dEV_give_7 : decode cEV_give 7 = .ok (.aload 4, 2) := by decide +kernel
theorem dEV_give_9 : decode cEV_give 9 = .ok (.ifnonnull 5, 3) := by decide +kernel
theorem dEV_give_12 : decode cEV_give 12 = .ok (.iconst (-1), 1) := by decide +kernel
theorem dEV_give_13 : decode cEV_give 13 = .ok (.ireturn, 1) := by decide +kernel
theorem dEV_give_14 : decode cEV_give 14 = .ok (.aload 4, 2) := by decide +kernel
theorem dEV_give_16 : decode cEV_give 16 = .ok (.getfield 74, 3) := by decide +kernel
theorem dEV_give_19 : decode cEV_give 19 = .ok (.iconst 3, 1) := by decide +kernel
theorem dEV_give_20 : decode cEV_give 20 = .ok (.if_icmp .ne 6, 3) := by decide +kernel
theorem dEV_give_23 : decode cEV_give 23 = .ok (.bipush (-6), 2) := by decide +kernel
theorem dEV_give_25 : decode cEV_give 25 = .ok (.ireturn, 1) := by decide +kernel
theorem dEV_give_26 : decode cEV_give 26 = .ok (.aload 4, 2) := by decide +kernel
theorem dEV_give_28 : decode cEV_give 28 = .ok (.getfield 102, 3) := by decide +kernel
theorem dEV_give_31 : decode cEV_give 31 = .ok (.ifCond .ne 6, 3) := by decide +kernel
theorem dEV_give_34 : decode cEV_give 34 = .ok (.bipush (-4), 2) := by decide +kernel
theorem dEV_give_36 : decode cEV_give 36 = .ok (.ireturn, 1) := by decide +kernel
theorem dEV_give_37 : decode cEV_give 37 = .ok (.aload 4, 2) := by decide +kernel
theorem dEV_give_39 : decode cEV_give 39 = .ok (.iload_n 2, 1) := by decide +kernel
theorem dEV_give_40 : decode cEV_give 40 = .ok (.iload_n 3, 1) := by decide +kernel
theorem dEV_give_41 : decode cEV_give 41 = .ok (.invokevirtual 131, 3) := by decide +kernel
theorem dEV_give_44 : decode cEV_give 44 = .ok (.ifCond .ne 6, 3) := by decide +kernel
theorem dEV_give_47 : decode cEV_give 47 = .ok (.bipush (-8), 2) := by decide +kernel
theorem dEV_give_49 : decode cEV_give 49 = .ok (.ireturn, 1) := by decide +kernel
theorem dEV_give_50 : decode cEV_give 50 = .ok (.aload 4, 2) := by decide +kernel
theorem dEV_give_52 : decode cEV_give 52 = .ok (.getfield 125, 3) := by decide +kernel
theorem dEV_give_55 : decode cEV_give 55 = .ok (.aload 4, 2) := by decide +kernel
theorem dEV_give_57 : decode cEV_give 57 = .ok (.getfield 134, 3) := by decide +kernel
theorem dEV_give_60 : decode cEV_give 60 = .ok (.isub, 1) := by decide +kernel
theorem dEV_give_61 : decode cEV_give 61 = .ok (.istore 5, 2) := by decide +kernel
theorem dEV_give_63 : decode cEV_give 63 = .ok (.aload 4, 2) := by decide +kernel
theorem dEV_give_65 : decode cEV_give 65 = .ok (.iload_n 2, 1) := by decide +kernel
theorem dEV_give_66 : decode cEV_give 66 = .ok (.invokevirtual 137, 3) := by decide +kernel
theorem dEV_give_69 : decode cEV_give 69 = .ok (.ifCond .eq 6, 3) := by decide +kernel
theorem dEV_give_72 : decode cEV_give 72 = .ok (.iload 5, 2) := by decide +kernel
theorem dEV_give_74 : decode cEV_give 74 = .ok (.ireturn, 1) := by decide +kernel
theorem dEV_give_75 : decode cEV_give 75 = .ok (.aload_n 0, 1) := by decide +kernel
theorem dEV_give_76 : decode cEV_give 76 = .ok (.getfield 19, 3) := by decide +kernel
theorem dEV_give_79 : decode cEV_give 79 = .ok (.iload 5, 2) := by decide +kernel
theorem dEV_give_81 : decode cEV_give 81 = .ok (.iconst 1, 1) := by decide +kernel
theorem dEV_give_82 : decode cEV_give 82 = .ok (.if_icmp .ne 7, 3) := by decide +kernel
theorem dEV_give_85 : decode cEV_give 85 = .ok (.iconst 2, 1) := by decide +kernel
theorem dEV_give_86 : decode cEV_give 86 = .ok (.goto 4, 3) := by decide +kernel
theorem dEV_give_89 : decode cEV_give 89 = .ok (.iconst 1, 1) := by decide +kernel
theorem dEV_give_90 : decode cEV_give 90 = .ok (.invokevirtual 71, 3) := by decide +kernel
theorem dEV_give_93 : decode cEV_give 93 = .ok (.ifCond .ne 6, 3) := by decide +kernel
theorem dEV_give_96 : decode cEV_give 96 = .ok (.bipush (-2), 2) := by decide +kernel
theorem dEV_give_98 : decode cEV_give 98 = .ok (.ireturn, 1) := by decide +kernel
theorem dEV_give_99 : decode cEV_give 99 = .ok (.aload 4, 2) := by decide +kernel
theorem dEV_give_101 : decode cEV_give 101 = .ok (.iload_n 2, 1) := by decide +kernel
theorem dEV_give_102 : decode cEV_give 102 = .ok (.iload_n 3, 1) := by decide +kernel
theorem dEV_give_103 : decode cEV_give 103 = .ok (.invokevirtual 140, 3) := by decide +kernel
theorem dEV_give_106 : decode cEV_give 106 = .ok (.aload_n 0, 1) := by decide +kernel
theorem dEV_give_107 : decode cEV_give 107 = .ok (.getfield 19, 3) := by decide +kernel
theorem dEV_give_110 : decode cEV_give 110 = .ok (.iconst 5, 1) := by decide +kernel
theorem dEV_give_111 : decode cEV_give 111 = .ok (.iload_n 1, 1) := by decide +kernel
theorem dEV_give_112 : decode cEV_give 112 = .ok (.iload_n 2, 1) := by decide +kernel
theorem dEV_give_113 : decode cEV_give 113 = .ok (.invokevirtual 87, 3) := by decide +kernel
theorem dEV_give_116 : decode cEV_give 116 = .ok (.iload 5, 2) := by decide +kernel
theorem dEV_give_118 : decode cEV_give 118 = .ok (.iconst 1, 1) := by decide +kernel
theorem dEV_give_119 : decode cEV_give 119 = .ok (.if_icmp .ne 23, 3) := by decide +kernel
theorem dEV_give_122 : decode cEV_give 122 = .ok (.aload 4, 2) := by decide +kernel
theorem dEV_give_124 : decode cEV_give 124 = .ok (.invokevirtual 143, 3) := by decide +kernel
theorem dEV_give_127 : decode cEV_give 127 = .ok (.aload_n 0, 1) := by decide +kernel
theorem dEV_give_128 : decode cEV_give 128 = .ok (.getfield 19, 3) := by decide +kernel
theorem dEV_give_131 : decode cEV_give 131 = .ok (.bipush 6, 2) := by decide +kernel
theorem dEV_give_133 : decode cEV_give 133 = .ok (.iload_n 1, 1) := by decide +kernel
theorem dEV_give_134 : decode cEV_give 134 = .ok (.aload 4, 2) := by decide +kernel
theorem dEV_give_136 : decode cEV_give 136 = .ok (.getfield 125, 3) := by decide +kernel
theorem dEV_give_139 : decode cEV_give 139 = .ok (.invokevirtual 87, 3) := by decide +kernel
theorem dEV_give_142 : decode cEV_give 142 = .ok (.iload 5, 2) := by decide +kernel
theorem dEV_give_144 : decode cEV_give 144 = .ok (.iconst 1, 1) := by decide +kernel
theorem dEV_give_145 : decode cEV_give 145 = .ok (.isub, 1) := by decide +kernel
theorem dEV_give_146 : decode cEV_give 146 = .ok (.ireturn, 1) := by decide +kernel
theorem dEV_wrap_0 : decode cEV_wrap 0 = .ok (.aload_n 0, 1) := by decide +kernel
theorem dEV_wrap_1 : decode cEV_wrap 1 = .ok (.getfield 47, 3) := by decide +kernel
theorem dEV_wrap_4 : decode cEV_wrap 4 = .ok (.ifnonnull 6, 3) := by decide +kernel
theorem dEV_wrap_7 : decode cEV_wrap 7 = .ok (.bipush (-4), 2) := by decide +kernel
theorem dEV_wrap_9 : decode cEV_wrap 9 = .ok (.ireturn, 1) := by decide +kernel
theorem dEV_wrap_10 : decode cEV_wrap 10 = .ok (.aload_n 0, 1) := by decide +kernel
theorem dEV_wrap_11 : decode cEV_wrap 11 = .ok (.getfield 47, 3) := by decide +kernel
theorem dEV_wrap_14 : decode cEV_wrap 14 = .ok (.getfield 102, 3) := by decide +kernel
theorem dEV_wrap_17 : decode cEV_wrap 17 = .ok (.ifCond .eq 6, 3) := by decide +kernel
theorem dEV_wrap_20 : decode cEV_wrap 20 = .ok (.bipush (-7), 2) := by decide +kernel
theorem dEV_wrap_22 : decode cEV_wrap 22 = .ok (.ireturn, 1) := by decide +kernel
theorem dEV_wrap_23 : decode cEV_wrap 23 = .ok (.iload_n 1, 1) := by decide +kernel
theorem dEV_wrap_24 : decode cEV_wrap 24 = .ok (.aload_n 0, 1) := by decide +kernel
theorem dEV_wrap_25 : decode cEV_wrap 25 = .ok (.getfield 47, 3) := by decide +kernel
theorem dEV_wrap_28 : decode cEV_wrap 28 = .ok (.getfield 106, 3) := by decide +kernel
theorem dEV_wrap_31 : decode cEV_wrap 31 = .ok (.aload_n 0, 1) := by decide +kernel
theorem dEV_wrap_32 : decode cEV_wrap 32 = .ok (.getfield 51, 3) := by decide +kernel
theorem dEV_wrap_35 : decode cEV_wrap 35 = .ok (.invokestatic 146, 3) := by decide +kernel
theorem dEV_wrap_38 : decode cEV_wrap 38 = .ok (.ixor, 1) := by decide +kernel
theorem dEV_wrap_39 : decode cEV_wrap 39 = .ok (.istore_n 2, 1) := by decide +kernel
theorem dEV_wrap_40 : decode cEV_wrap 40 = .ok (.aload_n 0, 1) := by decide +kernel
theorem dEV_wrap_41 : decode cEV_wrap 41 = .ok (.getfield 26, 3) := by decide +kernel
theorem dEV_wrap_44 : decode cEV_wrap 44 = .ok (.iconst 0, 1) := by decide +kernel
theorem dEV_wrap_45 : decode cEV_wrap 45 = .ok (.putfield 149, 3) := by decide +kernel
theorem dEV_wrap_48 : decode cEV_wrap 48 = .ok (.aload_n 0, 1) := by decide +kernel
theorem dEV_wrap_49 : decode cEV_wrap 49 = .ok (.getfield 26, 3) := by decide +kernel
theorem dEV_wrap_52 : decode cEV_wrap 52 = .ok (.aload_n 0, 1) := by decide +kernel
theorem dEV_wrap_53 : decode cEV_wrap 53 = .ok (.getfield 47, 3) := by decide +kernel
theorem dEV_wrap_56 : decode cEV_wrap 56 = .ok (.getfield 77, 3) := by decide +kernel
theorem dEV_wrap_59 : decode cEV_wrap 59 = .ok (.iconst 1, 1) := by decide +kernel
theorem dEV_wrap_60 : decode cEV_wrap 60 = .ok (.invokevirtual 152, 3) := by decide +kernel
theorem dEV_wrap_63 : decode cEV_wrap 63 = .ok (.aload_n 0, 1) := by decide +kernel
theorem dEV_wrap_64 : decode cEV_wrap 64 = .ok (.getfield 26, 3) := by decide +kernel
theorem dEV_wrap_67 : decode cEV_wrap 67 = .ok (.aload_n 0, 1) := by decide +kernel
theorem dEV_wrap_68 : decode cEV_wrap 68 = .ok (.getfield 51, 3) := by decide +kernel
theorem dEV_wrap_71 : decode cEV_wrap 71 = .ok (.iconst 2, 1) := by decide +kernel
theorem dEV_wrap_72 : decode cEV_wrap 72 = .ok (.invokevirtual 152, 3) := by decide +kernel
theorem dEV_wrap_75 : decode cEV_wrap 75 = .ok (.aload_n 0, 1) := by decide +kernel
theorem dEV_wrap_76 : decode cEV_wrap 76 = .ok (.getfield 26, 3) := by decide +kernel
theorem dEV_wrap_79 : decode cEV_wrap 79 = .ok (.iload_n 2, 1) := by decide +kernel
theorem dEV_wrap_80 : decode cEV_wrap 80 = .ok (.iconst 4, 1) := by decide +kernel
theorem dEV_wrap_81 : decode cEV_wrap 81 = .ok (.invokevirtual 152, 3) := by decide +kernel
theorem dEV_wrap_84 : decode cEV_wrap 84 = .ok (.aload_n 0, 1) := by decide +kernel
theorem dEV_wrap_85 : decode cEV_wrap 85 = .ok (.getfield 26, 3) := by decide +kernel
theorem dEV_wrap_88 : decode cEV_wrap 88 = .ok (.aload_n 0, 1) := by decide +kernel
theorem dEV_wrap_89 : decode cEV_wrap 89 = .ok (.getfield 47, 3) := by decide +kernel
theorem dEV_wrap_92 : decode cEV_wrap 92 = .ok (.getfield 106, 3) := by decide +kernel
theorem dEV_wrap_95 : decode cEV_wrap 95 = .ok (.aload_n 0, 1) := by decide +kernel
theorem dEV_wrap_96 : decode cEV_wrap 96 = .ok (.getfield 51, 3) := by decide +kernel
theorem dEV_wrap_99 : decode cEV_wrap 99 = .ok (.iload_n 2, 1) := by decide +kernel
theorem dEV_wrap_100 : decode cEV_wrap 100 = .ok (.invokestatic 155, 3) := by decide +kernel
theorem dEV_wrap_103 : decode cEV_wrap 103 = .ok (.iconst 2, 1) := by decide +kernel
theorem dEV_wrap_104 : decode cEV_wrap 104 = .ok (.invokevirtual 152, 3) := by decide +kernel
theorem dEV_wrap_107 : decode cEV_wrap 107 = .ok (.aload_n 0, 1) := by decide +kernel
theorem dEV_wrap_108 : decode cEV_wrap 108 = .ok (.dup, 1) := by decide +kernel
theorem dEV_wrap_109 : decode cEV_wrap 109 = .ok (.getfield 51, 3) := by decide +kernel
theorem dEV_wrap_112 : decode cEV_wrap 112 = .ok (.iconst 1, 1) := by decide +kernel
theorem dEV_wrap_113 : decode cEV_wrap 113 = .ok (.iadd, 1) := by decide +kernel
theorem dEV_wrap_114 : decode cEV_wrap 114 = .ok (.putfield 51, 3) := by decide +kernel
theorem dEV_wrap_117 : decode cEV_wrap 117 = .ok (.aload_n 0, 1) := by decide +kernel
theorem dEV_wrap_118 : decode cEV_wrap 118 = .ok (.getfield 47, 3) := by decide +kernel
theorem dEV_wrap_121 : decode cEV_wrap 121 = .ok (.getfield 77, 3) := by decide +kernel
theorem dEV_wrap_124 : decode cEV_wrap 124 = .ok (.ireturn, 1) := by decide +kernel
theorem dEV_pad_0 : decode cEV_pad 0 = .ok (.iload_n 0, 1) := by decide +kernel
theorem dEV_pad_1 : decode cEV_pad 1 = .ok (.iload_n 1, 1) := by decide +kernel
theorem dEV_pad_2 : decode cEV_pad 2 = .ok (.invokestatic 197, 3) := by decide +kernel
theorem dEV_pad_5 : decode cEV_pad 5 = .ok (.iconst 1, 1) := by decide +kernel
theorem dEV_pad_6 : decode cEV_pad 6 = .ok (.invokestatic 197, 3) := by decide +kernel
theorem dEV_pad_9 : decode cEV_pad 9 = .ok (.ireturn, 1) := by decide +kernel
theorem dEV_tag_0 : decode cEV_tag 0 = .ok (.iload_n 0, 1) := by decide +kernel
theorem dEV_tag_1 : decode cEV_tag 1 = .ok (.iconst 2, 1) := by decide +kernel
theorem dEV_tag_2 : decode cEV_tag 2 = .ok (.invokestatic 197, 3) := by decide +kernel
theorem dEV_tag_5 : decode cEV_tag 5 = .ok (.iload_n 1, 1) := by decide +kernel
theorem dEV_tag_6 : decode cEV_tag 6 = .ok (.invokestatic 197, 3) := by decide +kernel
theorem dEV_tag_9 : decode cEV_tag 9 = .ok (.iload_n 2, 1) := by decide +kernel
theorem dEV_tag_10 : decode cEV_tag 10 = .ok (.invokestatic 197, 3) := by decide +kernel
theorem dEV_tag_13 : decode cEV_tag 13 = .ok (.ldc 200, 2) := by decide +kernel
theorem dEV_tag_15 : decode cEV_tag 15 = .ok (.iand, 1) := by decide +kernel
theorem dEV_tag_16 : decode cEV_tag 16 = .ok (.ireturn, 1) := by decide +kernel
theorem dEV_unwrap_0 : decode cEV_unwrap 0 = .ok (.aload_n 0, 1) := by decide +kernel
theorem dEV_unwrap_1 : decode cEV_unwrap 1 = .ok (.getfield 26, 3) := by decide +kernel
theorem dEV_unwrap_4 : decode cEV_unwrap 4 = .ok (.getfield 149, 3) := by decide +kernel
theorem dEV_unwrap_7 : decode cEV_unwrap 7 = .ok (.bipush 9, 2) := by decide +kernel
theorem dEV_unwrap_9 : decode cEV_unwrap 9 = .ok (.if_icmp .eq 7, 3) := by decide +kernel
theorem dEV_unwrap_12 : decode cEV_unwrap 12 = .ok (.ldc2_w 159, 3) := by decide +kernel
theorem dEV_unwrap_15 : decode cEV_unwrap 15 = .ok (.lreturn, 1) := by decide +kernel
theorem dEV_unwrap_16 : decode cEV_unwrap 16 = .ok (.aload_n 0, 1) := by decide +kernel
theorem dEV_unwrap_17 : decode cEV_unwrap 17 = .ok (.aload_n 0, 1) := by decide +kernel
theorem dEV_unwrap_18 : decode cEV_unwrap 18 = .ok (.getfield 26, 3) := by decide +kernel
theorem dEV_unwrap_21 : decode cEV_unwrap 21 = .ok (.iconst 0, 1) := by decide +kernel
theorem dEV_unwrap_22 : decode cEV_unwrap 22 = .ok (.iconst 1, 1) := by decide +kernel
theorem dEV_unwrap_23 : decode cEV_unwrap 23 = .ok (.invokevirtual 161, 3) := by decide +kernel
theorem dEV_unwrap_26 : decode cEV_unwrap 26 = .ok (.invokevirtual 91, 3) := by decide +kernel
theorem dEV_unwrap_29 : decode cEV_unwrap 29 = .ok (.astore_n 1, 1) := by decide +kernel
theorem dEV_unwrap_30 : decode cEV_unwrap 30 = .ok (.aload_n 1, 1) := by decide +kernel
theorem dEV_unwrap_31 : decode cEV_unwrap 31 = .ok (.ifnonnull 7, 3) := by decide +kernel
theorem dEV_unwrap_34 : decode cEV_unwrap 34 = .ok (.ldc2_w 163, 3) := by decide +kernel
theorem dEV_unwrap_37 : decode cEV_unwrap 37 = .ok (.lreturn, 1) := by decide +kernel
theorem dEV_unwrap_38 : decode cEV_unwrap 38 = .ok (.aload_n 1, 1) := by decide +kernel
theorem dEV_unwrap_39 : decode cEV_unwrap 39 = .ok (.getfield 74, 3) := by decide +kernel
theorem dEV_unwrap_42 : decode cEV_unwrap 42 = .ok (.iconst 3, 1) := by decide +kernel
theorem dEV_unwrap_43 : decode cEV_unwrap 43 = .ok (.if_icmp .ne 7, 3) := by decide +kernel
theorem dEV_unwrap_46 : decode cEV_unwrap 46 = .ok (.ldc2_w 165, 3) := by decide +kernel
theorem dEV_unwrap_49 : decode cEV_unwrap 49 = .ok (.lreturn, 1) := by decide +kernel
theorem dEV_unwrap_50 : decode cEV_unwrap 50 = .ok (.aload_n 1, 1) := by decide +kernel
theorem dEV_unwrap_51 : decode cEV_unwrap 51 = .ok (.getfield 102, 3) := by decide +kernel
theorem dEV_unwrap_54 : decode cEV_unwrap 54 = .ok (.ifCond .eq 7, 3) := by decide +kernel
theorem dEV_unwrap_57 : decode cEV_unwrap 57 = .ok (.ldc2_w 167, 3) := by decide +kernel
theorem dEV_unwrap_60 : decode cEV_unwrap 60 = .ok (.lreturn, 1) := by decide +kernel
theorem dEV_unwrap_61 : decode cEV_unwrap 61 = .ok (.aload_n 0, 1) := by decide +kernel
theorem dEV_unwrap_62 : decode cEV_unwrap 62 = .ok (.getfield 26, 3) := by decide +kernel
theorem dEV_unwrap_65 : decode cEV_unwrap 65 = .ok (.iconst 1, 1) := by decide +kernel
theorem dEV_unwrap_66 : decode cEV_unwrap 66 = .ok (.iconst 2, 1) := by decide +kernel
theorem dEV_unwrap_67 : decode cEV_unwrap 67 = .ok (.invokevirtual 161, 3) := by decide +kernel
theorem dEV_unwrap_70 : decode cEV_unwrap 70 = .ok (.istore_n 2, 1) := by decide +kernel
theorem dEV_unwrap_71 : decode cEV_unwrap 71 = .ok (.aload_n 0, 1) := by decide +kernel
theorem dEV_unwrap_72 : decode cEV_unwrap 72 = .ok (.getfield 26, 3) := by decide +kernel
theorem dEV_unwrap_75 : decode cEV_unwrap 75 = .ok (.iconst 3, 1) := by decide +kernel
theorem dEV_unwrap_76 : decode cEV_unwrap 76 = .ok (.iconst 4, 1) := by decide +kernel
theorem dEV_unwrap_77 : decode cEV_unwrap 77 = .ok (.invokevirtual 161, 3) := by decide +kernel
theorem dEV_unwrap_80 : decode cEV_unwrap 80 = .ok (.istore_n 3, 1) := by decide +kernel
theorem dEV_unwrap_81 : decode cEV_unwrap 81 = .ok (.aload_n 0, 1) := by decide +kernel
theorem dEV_unwrap_82 : decode cEV_unwrap 82 = .ok (.getfield 26, 3) := by decide +kernel
theorem dEV_unwrap_85 : decode cEV_unwrap 85 = .ok (.bipush 7, 2) := by decide +kernel
theorem dEV_unwrap_87 : decode cEV_unwrap 87 = .ok (.iconst 2, 1) := by decide +kernel
theorem dEV_unwrap_88 : decode cEV_unwrap 88 = .ok (.invokevirtual 161, 3) := by decide +kernel
theorem dEV_unwrap_91 : decode cEV_unwrap 91 = .ok (.aload_n 1, 1) := by decide +kernel
theorem dEV_unwrap_92 : decode cEV_unwrap 92 = .ok (.getfield 106, 3) := by decide +kernel
theorem dEV_unwrap_95 : decode cEV_unwrap 95 = .ok (.iload_n 2, 1) := by decide +kernel
theorem dEV_unwrap_96 : decode cEV_unwrap 96 = .ok (.iload_n 3, 1) := by decide +kernel
theorem dEV_unwrap_97 : decode cEV_unwrap 97 = .ok (.invokestatic 155, 3) := by decide +kernel
theorem dEV_unwrap_100 : decode cEV_unwrap 100 = .ok (.if_icmp .eq 7, 3) := by decide +kernel
theorem dEV_unwrap_103 : decode cEV_unwrap 103 = .ok (.ldc2_w 169, 3) := by decide +kernel
theorem dEV_unwrap_106 : decode cEV_unwrap 106 = .ok (.lreturn, 1) := by decide +kernel
theorem dEV_unwrap_107 : decode cEV_unwrap 107 = .ok (.iload_n 3, 1) := by decide +kernel
theorem dEV_unwrap_108 : decode cEV_unwrap 108 = .ok (.aload_n 1, 1) := by decide +kernel
theorem dEV_unwrap_109 : decode cEV_unwrap 109 = .ok (.getfield 106, 3) := by decide +kernel
theorem dEV_unwrap_112 : decode cEV_unwrap 112 = .ok (.iload_n 2, 1) := by decide +kernel
theorem dEV_unwrap_113 : decode cEV_unwrap 113 = .ok (.invokestatic 146, 3) := by decide +kernel
theorem dEV_unwrap_116 : decode cEV_unwrap 116 = .ok (.ixor, 1) := by decide +kernel
theorem dEV_unwrap_117 : decode cEV_unwrap 117 = .ok (.i2l, 1) := by decide +kernel
theorem dEV_unwrap_118 : decode cEV_unwrap 118 = .ok (.ldc2_w 171, 3) := by decide +kernel
theorem dEV_unwrap_121 : decode cEV_unwrap 121 = .ok (.land, 1) := by decide +kernel
theorem dEV_unwrap_122 : decode cEV_unwrap 122 = .ok (.lreturn, 1) := by decide +kernel
theorem dEV_set_0 : decode cEV_set 0 = .ok (.aload_n 0, 1) := by decide +kernel
theorem dEV_set_1 : decode cEV_set 1 = .ok (.getfield 26, 3) := by decide +kernel
theorem dEV_set_4 : decode cEV_set 4 = .ok (.iload_n 1, 1) := by decide +kernel
theorem dEV_set_5 : decode cEV_set 5 = .ok (.iload_n 2, 1) := by decide +kernel
theorem dEV_set_6 : decode cEV_set 6 = .ok (.invokevirtual 173, 3) := by decide +kernel
theorem dEV_set_9 : decode cEV_set 9 = .ok (.ireturn, 1) := by decide +kernel
theorem dEV_trim_0 : decode cEV_trim 0 = .ok (.iload_n 1, 1) := by decide +kernel
theorem dEV_trim_1 : decode cEV_trim 1 = .ok (.ifCond .lt 14, 3) := by decide +kernel
theorem dEV_trim_4 : decode cEV_trim 4 = .ok (.iload_n 1, 1) := by decide +kernel
theorem dEV_trim_5 : decode cEV_trim 5 = .ok (.aload_n 0, 1) := by decide +kernel
theorem dEV_trim_6 : decode cEV_trim 6 = .ok (.getfield 26, 3) := by decide +kernel
theorem dEV_trim_9 : decode cEV_trim 9 = .ok (.getfield 149, 3) := by decide +kernel
theorem dEV_trim_12 : decode cEV_trim 12 = .ok (.if_icmp .le 5, 3) := by decide +kernel
theorem dEV_trim_15 : decode cEV_trim 15 = .ok (.iconst 0, 1) := by decide +kernel
theorem dEV_trim_16 : decode cEV_trim 16 = .ok (.ireturn, 1) := by decide +kernel
theorem dEV_trim_17 : decode cEV_trim 17 = .ok (.aload_n 0, 1) := by decide +kernel
theorem dEV_trim_18 : decode cEV_trim 18 = .ok (.getfield 26, 3) := by decide +kernel
theorem dEV_trim_21 : decode cEV_trim 21 = .ok (.iload_n 1, 1) := by decide +kernel
theorem dEV_trim_22 : decode cEV_trim 22 = .ok (.putfield 149, 3) := by decide +kernel
theorem dEV_trim_25 : decode cEV_trim 25 = .ok (.iconst 1, 1) := by decide +kernel
theorem dEV_trim_26 : decode cEV_trim 26 = .ok (.ireturn, 1) := by decide +kernel
theorem dEV_byteAt_0 : decode cEV_byteAt 0 = .ok (.iload_n 1, 1) := by decide +kernel
theorem dEV_byteAt_1 : decode cEV_byteAt 1 = .ok (.ifCond .lt 14, 3) := by decide +kernel
theorem dEV_byteAt_4 : decode cEV_byteAt 4 = .ok (.iload_n 1, 1) := by decide +kernel
theorem dEV_byteAt_5 : decode cEV_byteAt 5 = .ok (.aload_n 0, 1) := by decide +kernel
theorem dEV_byteAt_6 : decode cEV_byteAt 6 = .ok (.getfield 26, 3) := by decide +kernel
theorem dEV_byteAt_9 : decode cEV_byteAt 9 = .ok (.getfield 149, 3) := by decide +kernel
theorem dEV_byteAt_12 : decode cEV_byteAt 12 = .ok (.if_icmp .lt 5, 3) := by decide +kernel
theorem dEV_byteAt_15 : decode cEV_byteAt 15 = .ok (.iconst (-1), 1) := by decide +kernel
theorem dEV_byteAt_16 : decode cEV_byteAt 16 = .ok (.ireturn, 1) := by decide +kernel
theorem dEV_byteAt_17 : decode cEV_byteAt 17 = .ok (.aload_n 0, 1) := by decide +kernel
theorem dEV_byteAt_18 : decode cEV_byteAt 18 = .ok (.getfield 26, 3) := by decide +kernel
theorem dEV_byteAt_21 : decode cEV_byteAt 21 = .ok (.getfield 176, 3) := by decide +kernel
theorem dEV_byteAt_24 : decode cEV_byteAt 24 = .ok (.iload_n 1, 1) := by decide +kernel
theorem dEV_byteAt_25 : decode cEV_byteAt 25 = .ok (.iaload, 1) := by decide +kernel
theorem dEV_byteAt_26 : decode cEV_byteAt 26 = .ok (.ireturn, 1) := by decide +kernel
theorem dEV_length_0 : decode cEV_length 0 = .ok (.aload_n 0, 1) := by decide +kernel
theorem dEV_length_1 : decode cEV_length 1 = .ok (.getfield 26, 3) := by decide +kernel
theorem dEV_length_4 : decode cEV_length 4 = .ok (.getfield 149, 3) := by decide +kernel
theorem dEV_length_7 : decode cEV_length 7 = .ok (.ireturn, 1) := by decide +kernel
theorem dEV_version_0 : decode cEV_version 0 = .ok (.aload_n 0, 1) := by decide +kernel
theorem dEV_version_1 : decode cEV_version 1 = .ok (.iload_n 1, 1) := by decide +kernel
theorem dEV_version_2 : decode cEV_version 2 = .ok (.invokevirtual 91, 3) := by decide +kernel
theorem dEV_version_5 : decode cEV_version 5 = .ok (.astore_n 3, 1) := by decide +kernel
theorem dEV_version_6 : decode cEV_version 6 = .ok (.aload_n 3, 1) := by decide +kernel
theorem dEV_version_7 : decode cEV_version 7 = .ok (.ifnonnull 5, 3) := by decide +kernel
theorem dEV_version_10 : decode cEV_version 10 = .ok (.iconst (-1), 1) := by decide +kernel
theorem dEV_version_11 : decode cEV_version 11 = .ok (.ireturn, 1) := by decide +kernel
theorem dEV_version_12 : decode cEV_version 12 = .ok (.iload_n 2, 1) := by decide +kernel
theorem dEV_version_13 : decode cEV_version 13 = .ok (.tableswitch 59 0 3 #[31, 36, 49, 54], 31) := by decide +kernel
theorem dEV_version_44 : decode cEV_version 44 = .ok (.aload_n 3, 1) := by decide +kernel
theorem dEV_version_45 : decode cEV_version 45 = .ok (.getfield 74, 3) := by decide +kernel
theorem dEV_version_48 : decode cEV_version 48 = .ok (.ireturn, 1) := by decide +kernel
theorem dEV_version_49 : decode cEV_version 49 = .ok (.aload_n 3, 1) := by decide +kernel
theorem dEV_version_50 : decode cEV_version 50 = .ok (.getfield 102, 3) := by decide +kernel
theorem dEV_version_53 : decode cEV_version 53 = .ok (.ifCond .eq 7, 3) := by decide +kernel
theorem dEV_version_56 : decode cEV_version 56 = .ok (.iconst 1, 1) := by decide +kernel
theorem dEV_version_57 : decode cEV_version 57 = .ok (.goto 4, 3) := by decide +kernel
theorem dEV_version_60 : decode cEV_version 60 = .ok (.iconst 0, 1) := by decide +kernel
theorem dEV_version_61 : decode cEV_version 61 = .ok (.ireturn, 1) := by decide +kernel
theorem dEV_version_62 : decode cEV_version 62 = .ok (.aload_n 3, 1) := by decide +kernel
theorem dEV_version_63 : decode cEV_version 63 = .ok (.invokevirtual 117, 3) := by decide +kernel
theorem dEV_version_66 : decode cEV_version 66 = .ok (.ireturn, 1) := by decide +kernel
theorem dEV_version_67 : decode cEV_version 67 = .ok (.aload_n 3, 1) := by decide +kernel
theorem dEV_version_68 : decode cEV_version 68 = .ok (.getfield 179, 3) := by decide +kernel
theorem dEV_version_71 : decode cEV_version 71 = .ok (.ireturn, 1) := by decide +kernel
theorem dEV_version_72 : decode cEV_version 72 = .ok (.iconst (-1), 1) := by decide +kernel
theorem dEV_version_73 : decode cEV_version 73 = .ok (.ireturn, 1) := by decide +kernel
theorem dEV_versions_0 : decode cEV_versions 0 = .ok (.aload_n 0, 1) := by decide +kernel
theorem dEV_versions_1 : decode cEV_versions 1 = .ok (.getfield 43, 3) := by decide +kernel
theorem dEV_versions_4 : decode cEV_versions 4 = .ok (.ireturn, 1) := by decide +kernel
theorem dEV_log_0 : decode cEV_log 0 = .ok (.iload_n 1, 1) := by decide +kernel
theorem dEV_log_1 : decode cEV_log 1 = .ok (.ifCond .lt 14, 3) := by decide +kernel
theorem dEV_log_4 : decode cEV_log 4 = .ok (.iload_n 1, 1) := by decide +kernel
theorem dEV_log_5 : decode cEV_log 5 = .ok (.aload_n 0, 1) := by decide +kernel
theorem dEV_log_6 : decode cEV_log 6 = .ok (.getfield 19, 3) := by decide +kernel
theorem dEV_log_9 : decode cEV_log 9 = .ok (.getfield 182, 3) := by decide +kernel
theorem dEV_log_12 : decode cEV_log 12 = .ok (.if_icmp .lt 5, 3) := by decide +kernel
theorem dEV_log_15 : decode cEV_log 15 = .ok (.iconst 0, 1) := by decide +kernel
theorem dEV_log_16 : decode cEV_log 16 = .ok (.ireturn, 1) := by decide +kernel
theorem dEV_log_17 : decode cEV_log 17 = .ok (.iload_n 2, 1) := by decide +kernel
theorem dEV_log_18 : decode cEV_log 18 = .ok (.tableswitch 70 0 3 #[30, 40, 50, 60], 30) := by decide +kernel
theorem dEV_log_48 : decode cEV_log 48 = .ok (.aload_n 0, 1) := by decide +kernel
theorem dEV_log_49 : decode cEV_log 49 = .ok (.getfield 19, 3) := by decide +kernel
theorem dEV_log_52 : decode cEV_log 52 = .ok (.getfield 183, 3) := by decide +kernel
theorem dEV_log_55 : decode cEV_log 55 = .ok (.iload_n 1, 1) := by decide +kernel
theorem dEV_log_56 : decode cEV_log 56 = .ok (.iaload, 1) := by decide +kernel
theorem dEV_log_57 : decode cEV_log 57 = .ok (.ireturn, 1) := by decide +kernel
theorem dEV_log_58 : decode cEV_log 58 = .ok (.aload_n 0, 1) := by decide +kernel
theorem dEV_log_59 : decode cEV_log 59 = .ok (.getfield 19, 3) := by decide +kernel
theorem dEV_log_62 : decode cEV_log 62 = .ok (.getfield 186, 3) := by decide +kernel
theorem dEV_log_65 : decode cEV_log 65 = .ok (.iload_n 1, 1) := by decide +kernel
theorem dEV_log_66 : decode cEV_log 66 = .ok (.iaload, 1) := by decide +kernel
theorem dEV_log_67 : decode cEV_log 67 = .ok (.ireturn, 1) := by decide +kernel
theorem dEV_log_68 : decode cEV_log 68 = .ok (.aload_n 0, 1) := by decide +kernel
theorem dEV_log_69 : decode cEV_log 69 = .ok (.getfield 19, 3) := by decide +kernel
theorem dEV_log_72 : decode cEV_log 72 = .ok (.getfield 189, 3) := by decide +kernel
theorem dEV_log_75 : decode cEV_log 75 = .ok (.iload_n 1, 1) := by decide +kernel
theorem dEV_log_76 : decode cEV_log 76 = .ok (.iaload, 1) := by decide +kernel
theorem dEV_log_77 : decode cEV_log 77 = .ok (.ireturn, 1) := by decide +kernel
theorem dEV_log_78 : decode cEV_log 78 = .ok (.aload_n 0, 1) := by decide +kernel
theorem dEV_log_79 : decode cEV_log 79 = .ok (.getfield 19, 3) := by decide +kernel
theorem dEV_log_82 : decode cEV_log 82 = .ok (.getfield 192, 3) := by decide +kernel
theorem dEV_log_85 : decode cEV_log 85 = .ok (.iload_n 1, 1) := by decide +kernel
theorem dEV_log_86 : decode cEV_log 86 = .ok (.iaload, 1) := by decide +kernel
theorem dEV_log_87 : decode cEV_log 87 = .ok (.ireturn, 1) := by decide +kernel
theorem dEV_log_88 : decode cEV_log 88 = .ok (.iconst 0, 1) := by decide +kernel
theorem dEV_log_89 : decode cEV_log 89 = .ok (.ireturn, 1) := by decide +kernel
theorem dEV_entries_0 : decode cEV_entries 0 = .ok (.aload_n 0, 1) := by decide +kernel
theorem dEV_entries_1 : decode cEV_entries 1 = .ok (.getfield 19, 3) := by decide +kernel
theorem dEV_entries_4 : decode cEV_entries 4 = .ok (.getfield 182, 3) := by decide +kernel
theorem dEV_entries_7 : decode cEV_entries 7 = .ok (.ireturn, 1) := by decide +kernel
