theorem dMO_init_0 : decode cMO_init 0 = .ok (.aload_n 0, 1) := by decide +kernel
theorem dMO_init_1 : decode cMO_init 1 = .ok (.invokespecial 1, 3) := by decide +kernel
theorem dMO_init_4 : decode cMO_init 4 = .ok (.aload_n 0, 1) := by decide +kernel
theorem dMO_init_5 : decode cMO_init 5 = .ok (.bipush 64, 2) := by decide +kernel
theorem dMO_init_7 : decode cMO_init 7 = .ok (.newarray .int, 2) := by decide +kernel
theorem dMO_init_9 : decode cMO_init 9 = .ok (.putfield 7, 3) := by decide +kernel
theorem dMO_init_12 : decode cMO_init 12 = .ok (.aload_n 0, 1) := by decide +kernel
theorem dMO_init_13 : decode cMO_init 13 = .ok (.bipush 8, 2) := by decide +kernel
theorem dMO_init_15 : decode cMO_init 15 = .ok (.newarray .int, 2) := by decide +kernel
theorem dMO_init_17 : decode cMO_init 17 = .ok (.putfield 13, 3) := by decide +kernel
theorem dMO_init_20 : decode cMO_init 20 = .ok (.aload_n 0, 1) := by decide +kernel
theorem dMO_init_21 : decode cMO_init 21 = .ok (.bipush 8, 2) := by decide +kernel
theorem dMO_init_23 : decode cMO_init 23 = .ok (.newarray .int, 2) := by decide +kernel
theorem dMO_init_25 : decode cMO_init 25 = .ok (.putfield 16, 3) := by decide +kernel
theorem dMO_init_28 : decode cMO_init 28 = .ok (.aload_n 0, 1) := by decide +kernel
theorem dMO_init_29 : decode cMO_init 29 = .ok (.bipush 8, 2) := by decide +kernel
theorem dMO_init_31 : decode cMO_init 31 = .ok (.newarray .boolean, 2) := by decide +kernel
theorem dMO_init_33 : decode cMO_init 33 = .ok (.putfield 19, 3) := by decide +kernel
theorem dMO_init_36 : decode cMO_init 36 = .ok (.aload_n 0, 1) := by decide +kernel
theorem dMO_init_37 : decode cMO_init 37 = .ok (.bipush 8, 2) := by decide +kernel
theorem dMO_init_39 : decode cMO_init 39 = .ok (.newarray .int, 2) := by decide +kernel
theorem dMO_init_41 : decode cMO_init 41 = .ok (.putfield 23, 3) := by decide +kernel
theorem dMO_init_44 : decode cMO_init 44 = .ok (.aload_n 0, 1) := by decide +kernel
theorem dMO_init_45 : decode cMO_init 45 = .ok (.bipush 8, 2) := by decide +kernel
theorem dMO_init_47 : decode cMO_init 47 = .ok (.newarray .int, 2) := by decide +kernel
theorem dMO_init_49 : decode cMO_init 49 = .ok (.putfield 26, 3) := by decide +kernel
theorem dMO_init_52 : decode cMO_init 52 = .ok (.aload_n 0, 1) := by decide +kernel
theorem dMO_init_53 : decode cMO_init 53 = .ok (.bipush 72, 2) := by decide +kernel
theorem dMO_init_55 : decode cMO_init 55 = .ok (.newarray .int, 2) := by decide +kernel
theorem dMO_init_57 : decode cMO_init 57 = .ok (.putfield 29, 3) := by decide +kernel
theorem dMO_init_60 : decode cMO_init 60 = .ok (.aload_n 0, 1) := by decide +kernel
theorem dMO_init_61 : decode cMO_init 61 = .ok (.bipush 72, 2) := by decide +kernel
theorem dMO_init_63 : decode cMO_init 63 = .ok (.newarray .int, 2) := by decide +kernel
theorem dMO_init_65 : decode cMO_init 65 = .ok (.putfield 32, 3) := by decide +kernel
theorem dMO_init_68 : decode cMO_init 68 = .ok (.aload_n 0, 1) := by decide +kernel
theorem dMO_init_69 : decode cMO_init 69 = .ok (.bipush 72, 2) := by decide +kernel
theorem dMO_init_71 : decode cMO_init 71 = .ok (.newarray .boolean, 2) := by decide +kernel
theorem dMO_init_73 : decode cMO_init 73 = .ok (.putfield 35, 3) := by decide +kernel
theorem dMO_init_76 : decode cMO_init 76 = .ok (.aload_n 0, 1) := by decide +kernel
theorem dMO_init_77 : decode cMO_init 77 = .ok (.bipush 9, 2) := by decide +kernel
theorem dMO_init_79 : decode cMO_init 79 = .ok (.newarray .int, 2) := by decide +kernel
theorem dMO_init_81 : decode cMO_init 81 = .ok (.putfield 38, 3) := by decide +kernel
theorem dMO_init_84 : decode cMO_init 84 = .ok (.aload_n 0, 1) := by decide +kernel
theorem dMO_init_85 : decode cMO_init 85 = .ok (.bipush 80, 2) := by decide +kernel
theorem dMO_init_87 : decode cMO_init 87 = .ok (.newarray .int, 2) := by decide +kernel
theorem dMO_init_89 : decode cMO_init 89 = .ok (.putfield 41, 3) := by decide +kernel
theorem dMO_init_92 : decode cMO_init 92 = .ok (.aload_n 0, 1) := by decide +kernel
theorem dMO_init_93 : decode cMO_init 93 = .ok (.bipush 80, 2) := by decide +kernel
theorem dMO_init_95 : decode cMO_init 95 = .ok (.newarray .int, 2) := by decide +kernel
theorem dMO_init_97 : decode cMO_init 97 = .ok (.putfield 44, 3) := by decide +kernel
theorem dMO_init_100 : decode cMO_init 100 = .ok (.aload_n 0, 1) := by decide +kernel
theorem dMO_init_101 : decode cMO_init 101 = .ok (.bipush 80, 2) := by decide +kernel
theorem dMO_init_103 : decode cMO_init 103 = .ok (.newarray .int, 2) := by decide +kernel
theorem dMO_init_105 : decode cMO_init 105 = .ok (.putfield 47, 3) := by decide +kernel
theorem dMO_init_108 : decode cMO_init 108 = .ok (.aload_n 0, 1) := by decide +kernel
theorem dMO_init_109 : decode cMO_init 109 = .ok (.bipush 80, 2) := by decide +kernel
theorem dMO_init_111 : decode cMO_init 111 = .ok (.newarray .int, 2) := by decide +kernel
theorem dMO_init_113 : decode cMO_init 113 = .ok (.putfield 50, 3) := by decide +kernel
theorem dMO_init_116 : decode cMO_init 116 = .ok (.aload_n 0, 1) := by decide +kernel
theorem dMO_init_117 : decode cMO_init 117 = .ok (.bipush 16, 2) := by decide +kernel
theorem dMO_init_119 : decode cMO_init 119 = .ok (.newarray .int, 2) := by decide +kernel
theorem dMO_init_121 : decode cMO_init 121 = .ok (.putfield 53, 3) := by decide +kernel
theorem dMO_init_124 : decode cMO_init 124 = .ok (.aload_n 0, 1) := by decide +kernel
theorem dMO_init_125 : decode cMO_init 125 = .ok (.bipush 8, 2) := by decide +kernel
theorem dMO_init_127 : decode cMO_init 127 = .ok (.newarray .int, 2) := by decide +kernel
theorem dMO_init_129 : decode cMO_init 129 = .ok (.putfield 56, 3) := by decide +kernel
theorem dMO_init_132 : decode cMO_init 132 = .ok (.aload_n 0, 1) := by decide +kernel
theorem dMO_init_133 : decode cMO_init 133 = .ok (.bipush 8, 2) := by decide +kernel
theorem dMO_init_135 : decode cMO_init 135 = .ok (.newarray .int, 2) := by decide +kernel
theorem dMO_init_137 : decode cMO_init 137 = .ok (.putfield 59, 3) := by decide +kernel
theorem dMO_init_140 : decode cMO_init 140 = .ok (.return_, 1) := by decide +kernel
theorem dMO_coin_0 : decode cMO_coin 0 = .ok (.iload_n 1, 1) := by decide +kernel
theorem dMO_coin_1 : decode cMO_coin 1 = .ok (.ifCond .lt 19, 3) := by decide +kernel
theorem dMO_coin_4 : decode cMO_coin 4 = .ok (.iload_n 1, 1) := by decide +kernel
theorem dMO_coin_5 : decode cMO_coin 5 = .ok (.sipush 255, 3) := by decide +kernel
theorem dMO_coin_8 : decode cMO_coin 8 = .ok (.if_icmp .gt 12, 3) := by decide +kernel
theorem dMO_coin_11 : decode cMO_coin 11 = .ok (.aload_n 0, 1) := by decide +kernel
theorem dMO_coin_12 : decode cMO_coin 12 = .ok (.getfield 68, 3) := by decide +kernel
theorem dMO_coin_15 : decode cMO_coin 15 = .ok (.bipush 64, 2) := by decide +kernel
theorem dMO_coin_17 : decode cMO_coin 17 = .ok (.if_icmp .ne 5, 3) := by decide +kernel
theorem dMO_coin_20 : decode cMO_coin 20 = .ok (.iconst 0, 1) := by decide +kernel
theorem dMO_coin_21 : decode cMO_coin 21 = .ok (.ireturn, 1) := by decide +kernel
theorem dMO_coin_22 : decode cMO_coin 22 = .ok (.aload_n 0, 1) := by decide +kernel
theorem dMO_coin_23 : decode cMO_coin 23 = .ok (.getfield 7, 3) := by decide +kernel
theorem dMO_coin_26 : decode cMO_coin 26 = .ok (.aload_n 0, 1) := by decide +kernel
theorem dMO_coin_27 : decode cMO_coin 27 = .ok (.getfield 68, 3) := by decide +kernel
theorem dMO_coin_30 : decode cMO_coin 30 = .ok (.iload_n 1, 1) := by decide +kernel
theorem dMO_coin_31 : decode cMO_coin 31 = .ok (.iastore, 1) := by decide +kernel
theorem dMO_coin_32 : decode cMO_coin 32 = .ok (.aload_n 0, 1) := by decide +kernel
theorem dMO_coin_33 : decode cMO_coin 33 = .ok (.dup, 1) := by decide +kernel
theorem dMO_coin_34 : decode cMO_coin 34 = .ok (.getfield 68, 3) := by decide +kernel
theorem dMO_coin_37 : decode cMO_coin 37 = .ok (.iconst 1, 1) := by decide +kernel
theorem dMO_coin_38 : decode cMO_coin 38 = .ok (.iadd, 1) := by decide +kernel
theorem dMO_coin_39 : decode cMO_coin 39 = .ok (.putfield 68, 3) := by decide +kernel
theorem dMO_coin_42 : decode cMO_coin 42 = .ok (.iconst 1, 1) := by decide +kernel
theorem dMO_coin_43 : decode cMO_coin 43 = .ok (.ireturn, 1) := by decide +kernel
theorem dMO_coins_0 : decode cMO_coins 0 = .ok (.aload_n 0, 1) := by decide +kernel
theorem dMO_coins_1 : decode cMO_coins 1 = .ok (.getfield 68, 3) := by decide +kernel
theorem dMO_coins_4 : decode cMO_coins 4 = .ok (.ireturn, 1) := by decide +kernel
theorem dMO_times_0 : decode cMO_times 0 = .ok (.iload_n 1, 1) := by decide +kernel
theorem dMO_times_1 : decode cMO_times 1 = .ok (.ifCond .lt 21, 3) := by decide +kernel
theorem dMO_times_4 : decode cMO_times 4 = .ok (.iload_n 1, 1) := by decide +kernel
theorem dMO_times_5 : decode cMO_times 5 = .ok (.sipush 255, 3) := by decide +kernel
theorem dMO_times_8 : decode cMO_times 8 = .ok (.if_icmp .gt 14, 3) := by decide +kernel
theorem dMO_times_11 : decode cMO_times 11 = .ok (.iload_n 2, 1) := by decide +kernel
theorem dMO_times_12 : decode cMO_times 12 = .ok (.ifCond .lt 10, 3) := by decide +kernel
theorem dMO_times_15 : decode cMO_times 15 = .ok (.iload_n 2, 1) := by decide +kernel
theorem dMO_times_16 : decode cMO_times 16 = .ok (.sipush 255, 3) := by decide +kernel
theorem dMO_times_19 : decode cMO_times 19 = .ok (.if_icmp .le 7, 3) := by decide +kernel
theorem dMO_times_22 : decode cMO_times 22 = .ok (.iconst (-1), 1) := by decide +kernel
theorem dMO_times_23 : decode cMO_times 23 = .ok (.goto 8, 3) := by decide +kernel
theorem dMO_times_26 : decode cMO_times 26 = .ok (.iload_n 1, 1) := by decide +kernel
theorem dMO_times_27 : decode cMO_times 27 = .ok (.iload_n 2, 1) := by decide +kernel
theorem dMO_times_28 : decode cMO_times 28 = .ok (.invokestatic 64, 3) := by decide +kernel
theorem dMO_times_31 : decode cMO_times 31 = .ok (.ireturn, 1) := by decide +kernel
theorem dMO_product_0 : decode cMO_product 0 = .ok (.iconst 0, 1) := by decide +kernel
theorem dMO_product_1 : decode cMO_product 1 = .ok (.istore_n 2, 1) := by decide +kernel
theorem dMO_product_2 : decode cMO_product 2 = .ok (.iload_n 0, 1) := by decide +kernel
theorem dMO_product_3 : decode cMO_product 3 = .ok (.istore_n 3, 1) := by decide +kernel
theorem dMO_product_4 : decode cMO_product 4 = .ok (.iconst 0, 1) := by decide +kernel
theorem dMO_product_5 : decode cMO_product 5 = .ok (.istore 4, 2) := by decide +kernel
theorem dMO_product_7 : decode cMO_product 7 = .ok (.iload 4, 2) := by decide +kernel
theorem dMO_product_9 : decode cMO_product 9 = .ok (.bipush 8, 2) := by decide +kernel
theorem dMO_product_11 : decode cMO_product 11 = .ok (.if_icmp .ge 48, 3) := by decide +kernel
theorem dMO_product_14 : decode cMO_product 14 = .ok (.iload_n 1, 1) := by decide +kernel
theorem dMO_product_15 : decode cMO_product 15 = .ok (.iload 4, 2) := by decide +kernel
theorem dMO_product_17 : decode cMO_product 17 = .ok (.ishr, 1) := by decide +kernel
theorem dMO_product_18 : decode cMO_product 18 = .ok (.iconst 1, 1) := by decide +kernel
theorem dMO_product_19 : decode cMO_product 19 = .ok (.iand, 1) := by decide +kernel
theorem dMO_product_20 : decode cMO_product 20 = .ok (.iconst 1, 1) := by decide +kernel
theorem dMO_product_21 : decode cMO_product 21 = .ok (.if_icmp .ne 9, 3) := by decide +kernel
theorem dMO_product_24 : decode cMO_product 24 = .ok (.iload_n 2, 1) := by decide +kernel
theorem dMO_product_25 : decode cMO_product 25 = .ok (.iload_n 3, 1) := by decide +kernel
theorem dMO_product_26 : decode cMO_product 26 = .ok (.ixor, 1) := by decide +kernel
theorem dMO_product_27 : decode cMO_product 27 = .ok (.goto 4, 3) := by decide +kernel
theorem dMO_product_30 : decode cMO_product 30 = .ok (.iload_n 2, 1) := by decide +kernel
theorem dMO_product_31 : decode cMO_product 31 = .ok (.istore_n 2, 1) := by decide +kernel
theorem dMO_product_32 : decode cMO_product 32 = .ok (.iload_n 3, 1) := by decide +kernel
theorem dMO_product_33 : decode cMO_product 33 = .ok (.iconst 2, 1) := by decide +kernel
theorem dMO_product_34 : decode cMO_product 34 = .ok (.imul, 1) := by decide +kernel
theorem dMO_product_35 : decode cMO_product 35 = .ok (.istore_n 3, 1) := by decide +kernel
theorem dMO_product_36 : decode cMO_product 36 = .ok (.iload_n 3, 1) := by decide +kernel
theorem dMO_product_37 : decode cMO_product 37 = .ok (.sipush 255, 3) := by decide +kernel
theorem dMO_product_40 : decode cMO_product 40 = .ok (.if_icmp .le 11, 3) := by decide +kernel
theorem dMO_product_43 : decode cMO_product 43 = .ok (.iload_n 3, 1) := by decide +kernel
theorem dMO_product_44 : decode cMO_product 44 = .ok (.sipush 283, 3) := by decide +kernel
theorem dMO_product_47 : decode cMO_product 47 = .ok (.ixor, 1) := by decide +kernel
theorem dMO_product_48 : decode cMO_product 48 = .ok (.goto 4, 3) := by decide +kernel
theorem dMO_product_51 : decode cMO_product 51 = .ok (.iload_n 3, 1) := by decide +kernel
theorem dMO_product_52 : decode cMO_product 52 = .ok (.istore_n 3, 1) := by decide +kernel
theorem dMO_product_53 : decode cMO_product 53 = .ok (.iinc 4 1, 3) := by decide +kernel
theorem dMO_product_56 : decode cMO_product 56 = .ok (.goto (-49), 3) := by decide +kernel
theorem dMO_product_59 : decode cMO_product 59 = .ok (.iload_n 2, 1) := by decide +kernel
theorem dMO_product_60 : decode cMO_product 60 = .ok (.ireturn, 1) := by decide +kernel
theorem dMO_rotate_0 : decode cMO_rotate 0 = .ok (.aload_n 0, 1) := by decide +kernel
theorem dMO_rotate_1 : decode cMO_rotate 1 = .ok (.getfield 78, 3) := by decide +kernel
theorem dMO_rotate_4 : decode cMO_rotate 4 = .ok (.bipush 8, 2) := by decide +kernel
theorem dMO_rotate_6 : decode cMO_rotate 6 = .ok (.if_icmp .eq 12, 3) := by decide +kernel
theorem dMO_rotate_9 : decode cMO_rotate 9 = .ok (.aload_n 0, 1) := by decide +kernel
theorem dMO_rotate_10 : decode cMO_rotate 10 = .ok (.getfield 72, 3) := by decide +kernel
theorem dMO_rotate_13 : decode cMO_rotate 13 = .ok (.bipush 80, 2) := by decide +kernel
theorem dMO_rotate_15 : decode cMO_rotate 15 = .ok (.if_icmp .ne 6, 3) := by decide +kernel
theorem dMO_rotate_18 : decode cMO_rotate 18 = .ok (.bipush (-2), 2) := by decide +kernel
theorem dMO_rotate_20 : decode cMO_rotate 20 = .ok (.ireturn, 1) := by decide +kernel
theorem dMO_rotate_21 : decode cMO_rotate 21 = .ok (.aload_n 0, 1) := by decide +kernel
theorem dMO_rotate_22 : decode cMO_rotate 22 = .ok (.getfield 68, 3) := by decide +kernel
theorem dMO_rotate_25 : decode cMO_rotate 25 = .ok (.iconst 4, 1) := by decide +kernel
theorem dMO_rotate_26 : decode cMO_rotate 26 = .ok (.if_icmp .ge 6, 3) := by decide +kernel
theorem dMO_rotate_29 : decode cMO_rotate 29 = .ok (.bipush (-3), 2) := by decide +kernel
theorem dMO_rotate_31 : decode cMO_rotate 31 = .ok (.ireturn, 1) := by decide +kernel
theorem dMO_rotate_32 : decode cMO_rotate 32 = .ok (.aload_n 0, 1) := by decide +kernel
theorem dMO_rotate_33 : decode cMO_rotate 33 = .ok (.invokevirtual 81, 3) := by decide +kernel
theorem dMO_rotate_36 : decode cMO_rotate 36 = .ok (.istore_n 1, 1) := by decide +kernel
theorem dMO_rotate_37 : decode cMO_rotate 37 = .ok (.iload_n 1, 1) := by decide +kernel
theorem dMO_rotate_38 : decode cMO_rotate 38 = .ok (.ifCond .lt 10, 3) := by decide +kernel
theorem dMO_rotate_41 : decode cMO_rotate 41 = .ok (.aload_n 0, 1) := by decide +kernel
theorem dMO_rotate_42 : decode cMO_rotate 42 = .ok (.getfield 13, 3) := by decide +kernel
theorem dMO_rotate_45 : decode cMO_rotate 45 = .ok (.iload_n 1, 1) := by decide +kernel
theorem dMO_rotate_46 : decode cMO_rotate 46 = .ok (.iconst 2, 1) := by decide +kernel
theorem dMO_rotate_47 : decode cMO_rotate 47 = .ok (.iastore, 1) := by decide +kernel
theorem dMO_rotate_48 : decode cMO_rotate 48 = .ok (.iconst 0, 1) := by decide +kernel
theorem dMO_rotate_49 : decode cMO_rotate 49 = .ok (.istore_n 2, 1) := by decide +kernel
theorem dMO_rotate_50 : decode cMO_rotate 50 = .ok (.iconst 0, 1) := by decide +kernel
theorem dMO_rotate_51 : decode cMO_rotate 51 = .ok (.istore_n 3, 1) := by decide +kernel
theorem dMO_rotate_52 : decode cMO_rotate 52 = .ok (.iload_n 3, 1) := by decide +kernel
theorem dMO_rotate_53 : decode cMO_rotate 53 = .ok (.iconst 4, 1) := by decide +kernel
theorem dMO_rotate_54 : decode cMO_rotate 54 = .ok (.if_icmp .ge 19, 3) := by decide +kernel
theorem dMO_rotate_57 : decode cMO_rotate 57 = .ok (.iload_n 2, 1) := by decide +kernel
theorem dMO_rotate_58 : decode cMO_rotate 58 = .ok (.bipush 8, 2) := by decide +kernel
theorem dMO_rotate_60 : decode cMO_rotate 60 = .ok (.ishl, 1) := by decide +kernel
theorem dMO_rotate_61 : decode cMO_rotate 61 = .ok (.aload_n 0, 1) := by decide +kernel
theorem dMO_rotate_62 : decode cMO_rotate 62 = .ok (.invokevirtual 85, 3) := by decide +kernel
theorem dMO_rotate_65 : decode cMO_rotate 65 = .ok (.ior, 1) := by decide +kernel
theorem dMO_rotate_66 : decode cMO_rotate 66 = .ok (.istore_n 2, 1) := by decide +kernel
theorem dMO_rotate_67 : decode cMO_rotate 67 = .ok (.iinc 3 1, 3) := by decide +kernel
theorem dMO_rotate_70 : decode cMO_rotate 70 = .ok (.goto (-18), 3) := by decide +kernel
theorem dMO_rotate_73 : decode cMO_rotate 73 = .ok (.aload_n 0, 1) := by decide +kernel
theorem dMO_rotate_74 : decode cMO_rotate 74 = .ok (.getfield 13, 3) := by decide +kernel
theorem dMO_rotate_77 : decode cMO_rotate 77 = .ok (.aload_n 0, 1) := by decide +kernel
theorem dMO_rotate_78 : decode cMO_rotate 78 = .ok (.getfield 78, 3) := by decide +kernel
theorem dMO_rotate_81 : decode cMO_rotate 81 = .ok (.iconst 1, 1) := by decide +kernel
theorem dMO_rotate_82 : decode cMO_rotate 82 = .ok (.iastore, 1) := by decide +kernel
theorem dMO_rotate_83 : decode cMO_rotate 83 = .ok (.aload_n 0, 1) := by decide +kernel
theorem dMO_rotate_84 : decode cMO_rotate 84 = .ok (.getfield 16, 3) := by decide +kernel
theorem dMO_rotate_87 : decode cMO_rotate 87 = .ok (.aload_n 0, 1) := by decide +kernel
theorem dMO_rotate_88 : decode cMO_rotate 88 = .ok (.getfield 78, 3) := by decide +kernel
theorem dMO_rotate_91 : decode cMO_rotate 91 = .ok (.iload_n 2, 1) := by decide +kernel
theorem dMO_rotate_92 : decode cMO_rotate 92 = .ok (.iastore, 1) := by decide +kernel
theorem dMO_rotate_93 : decode cMO_rotate 93 = .ok (.aload_n 0, 1) := by decide +kernel
theorem dMO_rotate_94 : decode cMO_rotate 94 = .ok (.dup, 1) := by decide +kernel
theorem dMO_rotate_95 : decode cMO_rotate 95 = .ok (.getfield 78, 3) := by decide +kernel
theorem dMO_rotate_98 : decode cMO_rotate 98 = .ok (.iconst 1, 1) := by decide +kernel
theorem dMO_rotate_99 : decode cMO_rotate 99 = .ok (.iadd, 1) := by decide +kernel
theorem dMO_rotate_100 : decode cMO_rotate 100 = .ok (.putfield 78, 3) := by decide +kernel
theorem dMO_rotate_103 : decode cMO_rotate 103 = .ok (.aload_n 0, 1) := by decide +kernel
theorem dMO_rotate_104 : decode cMO_rotate 104 = .ok (.iconst 1, 1) := by decide +kernel
theorem dMO_rotate_105 : decode cMO_rotate 105 = .ok (.aload_n 0, 1) := by decide +kernel
theorem dMO_rotate_106 : decode cMO_rotate 106 = .ok (.getfield 78, 3) := by decide +kernel
theorem dMO_rotate_109 : decode cMO_rotate 109 = .ok (.iconst 1, 1) := by decide +kernel
theorem dMO_rotate_110 : decode cMO_rotate 110 = .ok (.isub, 1) := by decide +kernel
theorem dMO_rotate_111 : decode cMO_rotate 111 = .ok (.iload_n 1, 1) := by decide +kernel
theorem dMO_rotate_112 : decode cMO_rotate 112 = .ok (.iconst 1, 1) := by decide +kernel
theorem dMO_rotate_113 : decode cMO_rotate 113 = .ok (.iadd, 1) := by decide +kernel
theorem dMO_rotate_114 : decode cMO_rotate 114 = .ok (.invokevirtual 88, 3) := by decide +kernel
theorem dMO_rotate_117 : decode cMO_rotate 117 = .ok (.aload_n 0, 1) := by decide +kernel
theorem dMO_rotate_118 : decode cMO_rotate 118 = .ok (.getfield 78, 3) := by decide +kernel
theorem dMO_rotate_121 : decode cMO_rotate 121 = .ok (.iconst 1, 1) := by decide +kernel
theorem dMO_rotate_122 : decode cMO_rotate 122 = .ok (.isub, 1) := by decide +kernel
theorem dMO_rotate_123 : decode cMO_rotate 123 = .ok (.ireturn, 1) := by decide +kernel
theorem dMO_active_0 : decode cMO_active 0 = .ok (.iconst 0, 1) := by decide +kernel
theorem dMO_active_1 : decode cMO_active 1 = .ok (.istore_n 1, 1) := by decide +kernel
theorem dMO_active_2 : decode cMO_active 2 = .ok (.iload_n 1, 1) := by decide +kernel
theorem dMO_active_3 : decode cMO_active 3 = .ok (.aload_n 0, 1) := by decide +kernel
theorem dMO_active_4 : decode cMO_active 4 = .ok (.getfield 78, 3) := by decide +kernel
theorem dMO_active_7 : decode cMO_active 7 = .ok (.if_icmp .ge 21, 3) := by decide +kernel
theorem dMO_active_10 : decode cMO_active 10 = .ok (.aload_n 0, 1) := by decide +kernel
theorem dMO_active_11 : decode cMO_active 11 = .ok (.getfield 13, 3) := by decide +kernel
theorem dMO_active_14 : decode cMO_active 14 = .ok (.iload_n 1, 1) := by decide +kernel
theorem dMO_active_15 : decode cMO_active 15 = .ok (.iaload, 1) := by decide +kernel
theorem dMO_active_16 : decode cMO_active 16 = .ok (.iconst 1, 1) := by decide +kernel
theorem dMO_active_17 : decode cMO_active 17 = .ok (.if_icmp .ne 5, 3) := by decide +kernel
theorem dMO_active_20 : decode cMO_active 20 = .ok (.iload_n 1, 1) := by decide +kernel
theorem dMO_active_21 : decode cMO_active 21 = .ok (.ireturn, 1) := by decide +kernel
theorem dMO_active_22 : decode cMO_active 22 = .ok (.iinc 1 1, 3) := by decide +kernel
theorem dMO_active_25 : decode cMO_active 25 = .ok (.goto (-23), 3) := by decide +kernel
theorem dMO_active_28 : decode cMO_active 28 = .ok (.iconst (-1), 1) := by decide +kernel
theorem dMO_active_29 : decode cMO_active 29 = .ok (.ireturn, 1) := by decide +kernel
theorem dMO_pay_0 : decode cMO_pay 0 = .ok (.aload_n 0, 1) := by decide +kernel
theorem dMO_pay_1 : decode cMO_pay 1 = .ok (.getfield 7, 3) := by decide +kernel
theorem dMO_pay_4 : decode cMO_pay 4 = .ok (.iconst 0, 1) := by decide +kernel
theorem dMO_pay_5 : decode cMO_pay 5 = .ok (.iaload, 1) := by decide +kernel
theorem dMO_pay_6 : decode cMO_pay 6 = .ok (.istore_n 1, 1) := by decide +kernel
theorem dMO_pay_7 : decode cMO_pay 7 = .ok (.aload_n 0, 1) := by decide +kernel
theorem dMO_pay_8 : decode cMO_pay 8 = .ok (.dup, 1) := by decide +kernel
theorem dMO_pay_9 : decode cMO_pay 9 = .ok (.getfield 68, 3) := by decide +kernel
theorem dMO_pay_12 : decode cMO_pay 12 = .ok (.iconst 1, 1) := by decide +kernel
theorem dMO_pay_13 : decode cMO_pay 13 = .ok (.isub, 1) := by decide +kernel
theorem dMO_pay_14 : decode cMO_pay 14 = .ok (.putfield 68, 3) := by decide +kernel
theorem dMO_pay_17 : decode cMO_pay 17 = .ok (.iconst 0, 1) := by decide +kernel
theorem dMO_pay_18 : decode cMO_pay 18 = .ok (.istore_n 2, 1) := by decide +kernel
theorem dMO_pay_19 : decode cMO_pay 19 = .ok (.iload_n 2, 1) := by decide +kernel
theorem dMO_pay_20 : decode cMO_pay 20 = .ok (.aload_n 0, 1) := by decide +kernel
theorem dMO_pay_21 : decode cMO_pay 21 = .ok (.getfield 68, 3) := by decide +kernel
theorem dMO_pay_24 : decode cMO_pay 24 = .ok (.if_icmp .ge 23, 3) := by decide +kernel
theorem dMO_pay_27 : decode cMO_pay 27 = .ok (.aload_n 0, 1) := by decide +kernel
theorem dMO_pay_28 : decode cMO_pay 28 = .ok (.getfield 7, 3) := by decide +kernel
theorem dMO_pay_31 : decode cMO_pay 31 = .ok (.iload_n 2, 1) := by decide +kernel
theorem dMO_pay_32 : decode cMO_pay 32 = .ok (.aload_n 0, 1) := by decide +kernel
theorem dMO_pay_33 : decode cMO_pay 33 = .ok (.getfield 7, 3) := by decide +kernel
theorem dMO_pay_36 : decode cMO_pay 36 = .ok (.iload_n 2, 1) := by decide +kernel
theorem dMO_pay_37 : decode cMO_pay 37 = .ok (.iconst 1, 1) := by decide +kernel
theorem dMO_pay_38 : decode cMO_pay 38 = .ok (.iadd, 1) := by decide +kernel
theorem dMO_pay_39 : decode cMO_pay 39 = .ok (.iaload, 1) := by decide +kernel
theorem dMO_pay_40 : decode cMO_pay 40 = .ok (.iastore, 1) := by decide +kernel
theorem dMO_pay_41 : decode cMO_pay 41 = .ok (.iinc 2 1, 3) := by decide +kernel
theorem dMO_pay_44 : decode cMO_pay 44 = .ok (.goto (-25), 3) := by decide +kernel
theorem dMO_pay_47 : decode cMO_pay 47 = .ok (.iload_n 1, 1) := by decide +kernel
theorem dMO_pay_48 : decode cMO_pay 48 = .ok (.ireturn, 1) := by decide +kernel
theorem dMO_write_0 : decode cMO_write 0 = .ok (.aload_n 0, 1) := by decide +kernel
theorem dMO_write_1 : decode cMO_write 1 = .ok (.getfield 72, 3) := by decide +kernel
theorem dMO_write_4 : decode cMO_write 4 = .ok (.ifCond .ne 8, 3) := by decide +kernel
theorem dMO_write_7 : decode cMO_write 7 = .ok (.bipush 7, 2) := by decide +kernel
theorem dMO_write_9 : decode cMO_write 9 = .ok (.goto 14, 3) := by decide +kernel
theorem dMO_write_12 : decode cMO_write 12 = .ok (.aload_n 0, 1) := by decide +kernel
theorem dMO_write_13 : decode cMO_write 13 = .ok (.getfield 50, 3) := by decide +kernel
theorem dMO_write_16 : decode cMO_write 16 = .ok (.aload_n 0, 1) := by decide +kernel
theorem dMO_write_17 : decode cMO_write 17 = .ok (.getfield 72, 3) := by decide +kernel
theorem dMO_write_20 : decode cMO_write 20 = .ok (.iconst 1, 1) := by decide +kernel
theorem dMO_write_21 : decode cMO_write 21 = .ok (.isub, 1) := by decide +kernel
theorem dMO_write_22 : decode cMO_write 22 = .ok (.iaload, 1) := by decide +kernel
theorem dMO_write_23 : decode cMO_write 23 = .ok (.istore 4, 2) := by decide +kernel
theorem dMO_write_25 : decode cMO_write 25 = .ok (.aload_n 0, 1) := by decide +kernel
theorem dMO_write_26 : decode cMO_write 26 = .ok (.getfield 41, 3) := by decide +kernel
theorem dMO_write_29 : decode cMO_write 29 = .ok (.aload_n 0, 1) := by decide +kernel
theorem dMO_write_30 : decode cMO_write 30 = .ok (.getfield 72, 3) := by decide +kernel
theorem dMO_write_33 : decode cMO_write 33 = .ok (.iload_n 1, 1) := by decide +kernel
theorem dMO_write_34 : decode cMO_write 34 = .ok (.iastore, 1) := by decide +kernel
theorem dMO_write_35 : decode cMO_write 35 = .ok (.aload_n 0, 1) := by decide +kernel
theorem dMO_write_36 : decode cMO_write 36 = .ok (.getfield 44, 3) := by decide +kernel
theorem dMO_write_39 : decode cMO_write 39 = .ok (.aload_n 0, 1) := by decide +kernel
theorem dMO_write_40 : decode cMO_write 40 = .ok (.getfield 72, 3) := by decide +kernel
theorem dMO_write_43 : decode cMO_write 43 = .ok (.iload_n 2, 1) := by decide +kernel
theorem dMO_write_44 : decode cMO_write 44 = .ok (.iastore, 1) := by decide +kernel
theorem dMO_write_45 : decode cMO_write 45 = .ok (.aload_n 0, 1) := by decide +kernel
theorem dMO_write_46 : decode cMO_write 46 = .ok (.getfield 47, 3) := by decide +kernel
theorem dMO_write_49 : decode cMO_write 49 = .ok (.aload_n 0, 1) := by decide +kernel
theorem dMO_write_50 : decode cMO_write 50 = .ok (.getfield 72, 3) := by decide +kernel
theorem dMO_write_53 : decode cMO_write 53 = .ok (.iload_n 3, 1) := by decide +kernel
theorem dMO_write_54 : decode cMO_write 54 = .ok (.iastore, 1) := by decide +kernel
theorem dMO_write_55 : decode cMO_write 55 = .ok (.aload_n 0, 1) := by decide +kernel
theorem dMO_write_56 : decode cMO_write 56 = .ok (.getfield 50, 3) := by decide +kernel
theorem dMO_write_59 : decode cMO_write 59 = .ok (.aload_n 0, 1) := by decide +kernel
theorem dMO_write_60 : decode cMO_write 60 = .ok (.getfield 72, 3) := by decide +kernel
theorem dMO_write_63 : decode cMO_write 63 = .ok (.iload 4, 2) := by decide +kernel
theorem dMO_write_65 : decode cMO_write 65 = .ok (.iload_n 1, 1) := by decide +kernel
theorem dMO_write_66 : decode cMO_write 66 = .ok (.invokestatic 75, 3) := by decide +kernel
theorem dMO_write_69 : decode cMO_write 69 = .ok (.iload_n 2, 1) := by decide +kernel
theorem dMO_write_70 : decode cMO_write 70 = .ok (.invokestatic 75, 3) := by decide +kernel
theorem dMO_write_73 : decode cMO_write 73 = .ok (.iload_n 3, 1) := by decide +kernel
theorem dMO_write_74 : decode cMO_write 74 = .ok (.invokestatic 75, 3) := by decide +kernel
theorem dMO_write_77 : decode cMO_write 77 = .ok (.iastore, 1) := by decide +kernel
theorem dMO_write_78 : decode cMO_write 78 = .ok (.aload_n 0, 1) := by decide +kernel
theorem dMO_write_79 : decode cMO_write 79 = .ok (.dup, 1) := by decide +kernel
theorem dMO_write_80 : decode cMO_write 80 = .ok (.getfield 72, 3) := by decide +kernel
theorem dMO_write_83 : decode cMO_write 83 = .ok (.iconst 1, 1) := by decide +kernel
theorem dMO_write_84 : decode cMO_write 84 = .ok (.iadd, 1) := by decide +kernel
theorem dMO_write_85 : decode cMO_write 85 = .ok (.putfield 72, 3) := by decide +kernel
theorem dMO_write_88 : decode cMO_write 88 = .ok (.return_, 1) := by decide +kernel
theorem dMO_mix_0 : decode cMO_mix 0 = .ok (.iload_n 0, 1) := by decide +kernel
theorem dMO_mix_1 : decode cMO_mix 1 = .ok (.iload_n 1, 1) := by decide +kernel
theorem dMO_mix_2 : decode cMO_mix 2 = .ok (.ixor, 1) := by decide +kernel
theorem dMO_mix_3 : decode cMO_mix 3 = .ok (.ldc 62, 2) := by decide +kernel
theorem dMO_mix_5 : decode cMO_mix 5 = .ok (.imul, 1) := by decide +kernel
theorem dMO_mix_6 : decode cMO_mix 6 = .ok (.ldc 63, 2) := by decide +kernel
theorem dMO_mix_8 : decode cMO_mix 8 = .ok (.iadd, 1) := by decide +kernel
theorem dMO_mix_9 : decode cMO_mix 9 = .ok (.istore_n 2, 1) := by decide +kernel
theorem dMO_mix_10 : decode cMO_mix 10 = .ok (.iload_n 2, 1) := by decide +kernel
theorem dMO_mix_11 : decode cMO_mix 11 = .ok (.iload_n 2, 1) := by decide +kernel
theorem dMO_mix_12 : decode cMO_mix 12 = .ok (.bipush 15, 2) := by decide +kernel
theorem dMO_mix_14 : decode cMO_mix 14 = .ok (.iushr, 1) := by decide +kernel
theorem dMO_mix_15 : decode cMO_mix 15 = .ok (.ixor, 1) := by decide +kernel
theorem dMO_mix_16 : decode cMO_mix 16 = .ok (.ireturn, 1) := by decide +kernel
theorem dMO_destroy_0 : decode cMO_destroy 0 = .ok (.aload_n 0, 1) := by decide +kernel
theorem dMO_destroy_1 : decode cMO_destroy 1 = .ok (.iload_n 1, 1) := by decide +kernel
theorem dMO_destroy_2 : decode cMO_destroy 2 = .ok (.invokevirtual 92, 3) := by decide +kernel
theorem dMO_destroy_5 : decode cMO_destroy 5 = .ok (.ifCond .eq 5, 3) := by decide +kernel
theorem dMO_destroy_8 : decode cMO_destroy 8 = .ok (.iconst (-1), 1) := by decide +kernel
theorem dMO_destroy_9 : decode cMO_destroy 9 = .ok (.ireturn, 1) := by decide +kernel
theorem dMO_destroy_10 : decode cMO_destroy 10 = .ok (.aload_n 0, 1) := by decide +kernel
theorem dMO_destroy_11 : decode cMO_destroy 11 = .ok (.getfield 13, 3) := by decide +kernel
theorem dMO_destroy_14 : decode cMO_destroy 14 = .ok (.iload_n 1, 1) := by decide +kernel
theorem dMO_destroy_15 : decode cMO_destroy 15 = .ok (.iaload, 1) := by decide +kernel
theorem dMO_destroy_16 : decode cMO_destroy 16 = .ok (.iconst 3, 1) := by decide +kernel
theorem dMO_destroy_17 : decode cMO_destroy 17 = .ok (.if_icmp .ne 6, 3) := by decide +kernel
theorem dMO_destroy_20 : decode cMO_destroy 20 = .ok (.bipush (-6), 2) := by decide +kernel
theorem dMO_destroy_22 : decode cMO_destroy 22 = .ok (.ireturn, 1) := by decide +kernel
theorem dMO_destroy_23 : decode cMO_destroy 23 = .ok (.aload_n 0, 1) := by decide +kernel
theorem dMO_destroy_24 : decode cMO_destroy 24 = .ok (.getfield 72, 3) := by decide +kernel
theorem dMO_destroy_27 : decode cMO_destroy 27 = .ok (.bipush 80, 2) := by decide +kernel
theorem dMO_destroy_29 : decode cMO_destroy 29 = .ok (.if_icmp .ne 6, 3) := by decide +kernel
theorem dMO_destroy_32 : decode cMO_destroy 32 = .ok (.bipush (-2), 2) := by decide +kernel
theorem dMO_destroy_34 : decode cMO_destroy 34 = .ok (.ireturn, 1) := by decide +kernel
theorem dMO_destroy_35 : decode cMO_destroy 35 = .ok (.aload_n 0, 1) := by decide +kernel
theorem dMO_destroy_36 : decode cMO_destroy 36 = .ok (.getfield 13, 3) := by decide +kernel
theorem dMO_destroy_39 : decode cMO_destroy 39 = .ok (.iload_n 1, 1) := by decide +kernel
theorem dMO_destroy_40 : decode cMO_destroy 40 = .ok (.iaload, 1) := by decide +kernel
theorem dMO_destroy_41 : decode cMO_destroy 41 = .ok (.istore_n 2, 1) := by decide +kernel
theorem dMO_destroy_42 : decode cMO_destroy 42 = .ok (.aload_n 0, 1) := by decide +kernel
theorem dMO_destroy_43 : decode cMO_destroy 43 = .ok (.getfield 13, 3) := by decide +kernel
theorem dMO_destroy_46 : decode cMO_destroy 46 = .ok (.iload_n 1, 1) := by decide +kernel
theorem dMO_destroy_47 : decode cMO_destroy 47 = .ok (.iconst 3, 1) := by decide +kernel
theorem dMO_destroy_48 : decode cMO_destroy 48 = .ok (.iastore, 1) := by decide +kernel
theorem dMO_destroy_49 : decode cMO_destroy 49 = .ok (.aload_n 0, 1) := by decide +kernel
theorem dMO_destroy_50 : decode cMO_destroy 50 = .ok (.getfield 16, 3) := by decide +kernel
theorem dMO_destroy_53 : decode cMO_destroy 53 = .ok (.iload_n 1, 1) := by decide +kernel
theorem dMO_destroy_54 : decode cMO_destroy 54 = .ok (.iconst 0, 1) := by decide +kernel
theorem dMO_destroy_55 : decode cMO_destroy 55 = .ok (.iastore, 1) := by decide +kernel
theorem dMO_destroy_56 : decode cMO_destroy 56 = .ok (.aload_n 0, 1) := by decide +kernel
theorem dMO_destroy_57 : decode cMO_destroy 57 = .ok (.getfield 19, 3) := by decide +kernel
theorem dMO_destroy_60 : decode cMO_destroy 60 = .ok (.iload_n 1, 1) := by decide +kernel
theorem dMO_destroy_61 : decode cMO_destroy 61 = .ok (.iconst 0, 1) := by decide +kernel
theorem dMO_destroy_62 : decode cMO_destroy 62 = .ok (.bastore, 1) := by decide +kernel
theorem dMO_destroy_63 : decode cMO_destroy 63 = .ok (.aload_n 0, 1) := by decide +kernel
theorem dMO_destroy_64 : decode cMO_destroy 64 = .ok (.getfield 23, 3) := by decide +kernel
theorem dMO_destroy_67 : decode cMO_destroy 67 = .ok (.iload_n 1, 1) := by decide +kernel
theorem dMO_destroy_68 : decode cMO_destroy 68 = .ok (.iconst 0, 1) := by decide +kernel
theorem dMO_destroy_69 : decode cMO_destroy 69 = .ok (.iastore, 1) := by decide +kernel
theorem dMO_destroy_70 : decode cMO_destroy 70 = .ok (.aload_n 0, 1) := by decide +kernel
theorem dMO_destroy_71 : decode cMO_destroy 71 = .ok (.getfield 26, 3) := by decide +kernel
theorem dMO_destroy_74 : decode cMO_destroy 74 = .ok (.iload_n 1, 1) := by decide +kernel
theorem dMO_destroy_75 : decode cMO_destroy 75 = .ok (.iconst 0, 1) := by decide +kernel
theorem dMO_destroy_76 : decode cMO_destroy 76 = .ok (.iastore, 1) := by decide +kernel
theorem dMO_destroy_77 : decode cMO_destroy 77 = .ok (.aload_n 0, 1) := by decide +kernel
theorem dMO_destroy_78 : decode cMO_destroy 78 = .ok (.iload_n 1, 1) := by decide +kernel
theorem dMO_destroy_79 : decode cMO_destroy 79 = .ok (.invokevirtual 96, 3) := by decide +kernel
theorem dMO_destroy_82 : decode cMO_destroy 82 = .ok (.aload_n 0, 1) := by decide +kernel
theorem dMO_destroy_83 : decode cMO_destroy 83 = .ok (.iconst 2, 1) := by decide +kernel
theorem dMO_destroy_84 : decode cMO_destroy 84 = .ok (.iload_n 1, 1) := by decide +kernel
theorem dMO_destroy_85 : decode cMO_destroy 85 = .ok (.iload_n 2, 1) := by decide +kernel
theorem dMO_destroy_86 : decode cMO_destroy 86 = .ok (.invokevirtual 88, 3) := by decide +kernel
theorem dMO_destroy_89 : decode cMO_destroy 89 = .ok (.iload_n 2, 1) := by decide +kernel
theorem dMO_destroy_90 : decode cMO_destroy 90 = .ok (.ireturn, 1) := by decide +kernel
theorem dMO_none_0 : decode cMO_none 0 = .ok (.iload_n 1, 1) := by decide +kernel
theorem dMO_none_1 : decode cMO_none 1 = .ok (.ifCond .lt 11, 3) := by decide +kernel
theorem dMO_none_4 : decode cMO_none 4 = .ok (.iload_n 1, 1) := by decide +kernel
theorem dMO_none_5 : decode cMO_none 5 = .ok (.aload_n 0, 1) := by decide +kernel
theorem dMO_none_6 : decode cMO_none 6 = .ok (.getfield 78, 3) := by decide +kernel
theorem dMO_none_9 : decode cMO_none 9 = .ok (.if_icmp .lt 7, 3) := by decide +kernel
theorem dMO_none_12 : decode cMO_none 12 = .ok (.iconst 1, 1) := by decide +kernel
theorem dMO_none_13 : decode cMO_none 13 = .ok (.goto 4, 3) := by decide +kernel
theorem dMO_none_16 : decode cMO_none 16 = .ok (.iconst 0, 1) := by decide +kernel
theorem dMO_none_17 : decode cMO_none 17 = .ok (.ireturn, 1) := by decide +kernel
theorem dMO_dropGiven_0 : decode cMO_dropGiven 0 = .ok (.iconst 0, 1) := by decide +kernel
theorem dMO_dropGiven_1 : decode cMO_dropGiven 1 = .ok (.istore_n 2, 1) := by decide +kernel
theorem dMO_dropGiven_2 : decode cMO_dropGiven 2 = .ok (.iload_n 2, 1) := by decide +kernel
theorem dMO_dropGiven_3 : decode cMO_dropGiven 3 = .ok (.bipush 9, 2) := by decide +kernel
theorem dMO_dropGiven_5 : decode cMO_dropGiven 5 = .ok (.if_icmp .ge 21, 3) := by decide +kernel
theorem dMO_dropGiven_8 : decode cMO_dropGiven 8 = .ok (.aload_n 0, 1) := by decide +kernel
theorem dMO_dropGiven_9 : decode cMO_dropGiven 9 = .ok (.getfield 35, 3) := by decide +kernel
theorem dMO_dropGiven_12 : decode cMO_dropGiven 12 = .ok (.bipush 9, 2) := by decide +kernel
theorem dMO_dropGiven_14 : decode cMO_dropGiven 14 = .ok (.iload_n 1, 1) := by decide +kernel
theorem dMO_dropGiven_15 : decode cMO_dropGiven 15 = .ok (.imul, 1) := by decide +kernel
theorem dMO_dropGiven_16 : decode cMO_dropGiven 16 = .ok (.iload_n 2, 1) := by decide +kernel
theorem dMO_dropGiven_17 : decode cMO_dropGiven 17 = .ok (.iadd, 1) := by decide +kernel
theorem dMO_dropGiven_18 : decode cMO_dropGiven 18 = .ok (.iconst 0, 1) := by decide +kernel
theorem dMO_dropGiven_19 : decode cMO_dropGiven 19 = .ok (.bastore, 1) := by decide +kernel
theorem dMO_dropGiven_20 : decode cMO_dropGiven 20 = .ok (.iinc 2 1, 3) := by decide +kernel
theorem dMO_dropGiven_23 : decode cMO_dropGiven 23 = .ok (.goto (-21), 3) := by decide +kernel
theorem dMO_dropGiven_26 : decode cMO_dropGiven 26 = .ok (.return_, 1) := by decide +kernel
theorem dMO_split_0 : decode cMO_split 0 = .ok (.aload_n 0, 1) := by decide +kernel
theorem dMO_split_1 : decode cMO_split 1 = .ok (.iload_n 1, 1) := by decide +kernel
theorem dMO_split_2 : decode cMO_split 2 = .ok (.invokevirtual 92, 3) := by decide +kernel
theorem dMO_split_5 : decode cMO_split 5 = .ok (.ifCond .ne 19, 3) := by decide +kernel
theorem dMO_split_8 : decode cMO_split 8 = .ok (.iload_n 2, 1) := by decide +kernel
theorem dMO_split_9 : decode cMO_split 9 = .ok (.iconst 1, 1) := by decide +kernel
theorem dMO_split_10 : decode cMO_split 10 = .ok (.if_icmp .lt 14, 3) := by decide +kernel
theorem dMO_split_13 : decode cMO_split 13 = .ok (.iload_n 2, 1) := by decide +kernel
theorem dMO_split_14 : decode cMO_split 14 = .ok (.iload_n 3, 1) := by decide +kernel
theorem dMO_split_15 : decode cMO_split 15 = .ok (.if_icmp .gt 9, 3) := by decide +kernel
theorem dMO_split_18 : decode cMO_split 18 = .ok (.iload_n 3, 1) := by decide +kernel
theorem dMO_split_19 : decode cMO_split 19 = .ok (.bipush 8, 2) := by decide +kernel
theorem dMO_split_21 : decode cMO_split 21 = .ok (.if_icmp .le 5, 3) := by decide +kernel
theorem dMO_split_24 : decode cMO_split 24 = .ok (.iconst (-1), 1) := by decide +kernel
theorem dMO_split_25 : decode cMO_split 25 = .ok (.ireturn, 1) := by decide +kernel
theorem dMO_split_26 : decode cMO_split 26 = .ok (.aload_n 0, 1) := by decide +kernel
theorem dMO_split_27 : decode cMO_split 27 = .ok (.getfield 13, 3) := by decide +kernel
theorem dMO_split_30 : decode cMO_split 30 = .ok (.iload_n 1, 1) := by decide +kernel
theorem dMO_split_31 : decode cMO_split 31 = .ok (.iaload, 1) := by decide +kernel
theorem dMO_split_32 : decode cMO_split 32 = .ok (.iconst 3, 1) := by decide +kernel
theorem dMO_split_33 : decode cMO_split 33 = .ok (.if_icmp .ne 6, 3) := by decide +kernel
theorem dMO_split_36 : decode cMO_split 36 = .ok (.bipush (-6), 2) := by decide +kernel
theorem dMO_split_38 : decode cMO_split 38 = .ok (.ireturn, 1) := by decide +kernel
theorem dMO_split_39 : decode cMO_split 39 = .ok (.aload_n 0, 1) := by decide +kernel
theorem dMO_split_40 : decode cMO_split 40 = .ok (.getfield 19, 3) := by decide +kernel
theorem dMO_split_43 : decode cMO_split 43 = .ok (.iload_n 1, 1) := by decide +kernel
theorem dMO_split_44 : decode cMO_split 44 = .ok (.baload, 1) := by decide +kernel
theorem dMO_split_45 : decode cMO_split 45 = .ok (.ifCond .eq 6, 3) := by decide +kernel
theorem dMO_split_48 : decode cMO_split 48 = .ok (.bipush (-7), 2) := by decide +kernel
theorem dMO_split_50 : decode cMO_split 50 = .ok (.ireturn, 1) := by decide +kernel
theorem dMO_split_51 : decode cMO_split 51 = .ok (.aload_n 0, 1) := by decide +kernel
theorem dMO_split_52 : decode cMO_split 52 = .ok (.getfield 72, 3) := by decide +kernel
theorem dMO_split_55 : decode cMO_split 55 = .ok (.bipush 80, 2) := by decide +kernel
theorem dMO_split_57 : decode cMO_split 57 = .ok (.if_icmp .ne 6, 3) := by decide +kernel
theorem dMO_split_60 : decode cMO_split 60 = .ok (.bipush (-2), 2) := by decide +kernel
theorem dMO_split_62 : decode cMO_split 62 = .ok (.ireturn, 1) := by decide +kernel
theorem dMO_split_63 : decode cMO_split 63 = .ok (.aload_n 0, 1) := by decide +kernel
theorem dMO_split_64 : decode cMO_split 64 = .ok (.getfield 68, 3) := by decide +kernel
theorem dMO_split_67 : decode cMO_split 67 = .ok (.iconst 4, 1) := by decide +kernel
theorem dMO_split_68 : decode cMO_split 68 = .ok (.iload_n 2, 1) := by decide +kernel
theorem dMO_split_69 : decode cMO_split 69 = .ok (.iconst 1, 1) := by decide +kernel
theorem dMO_split_70 : decode cMO_split 70 = .ok (.isub, 1) := by decide +kernel
theorem dMO_split_71 : decode cMO_split 71 = .ok (.imul, 1) := by decide +kernel
theorem dMO_split_72 : decode cMO_split 72 = .ok (.if_icmp .ge 6, 3) := by decide +kernel
theorem dMO_split_75 : decode cMO_split 75 = .ok (.bipush (-3), 2) := by decide +kernel
theorem dMO_split_77 : decode cMO_split 77 = .ok (.ireturn, 1) := by decide +kernel
theorem dMO_split_78 : decode cMO_split 78 = .ok (.iconst 0, 1) := by decide +kernel
theorem dMO_split_79 : decode cMO_split 79 = .ok (.istore 4, 2) := by decide +kernel
theorem dMO_split_81 : decode cMO_split 81 = .ok (.iload 4, 2) := by decide +kernel
theorem dMO_split_83 : decode cMO_split 83 = .ok (.bipush 9, 2) := by decide +kernel
theorem dMO_split_85 : decode cMO_split 85 = .ok (.if_icmp .ge 17, 3) := by decide +kernel
theorem dMO_split_88 : decode cMO_split 88 = .ok (.aload_n 0, 1) := by decide +kernel
theorem dMO_split_89 : decode cMO_split 89 = .ok (.getfield 38, 3) := by decide +kernel
theorem dMO_split_92 : decode cMO_split 92 = .ok (.iload 4, 2) := by decide +kernel
theorem dMO_split_94 : decode cMO_split 94 = .ok (.iconst 0, 1) := by decide +kernel
theorem dMO_split_95 : decode cMO_split 95 = .ok (.iastore, 1) := by decide +kernel
theorem dMO_split_96 : decode cMO_split 96 = .ok (.iinc 4 1, 3) := by decide +kernel
theorem dMO_split_99 : decode cMO_split 99 = .ok (.goto (-18), 3) := by decide +kernel
theorem dMO_split_102 : decode cMO_split 102 = .ok (.iconst 0, 1) := by decide +kernel
theorem dMO_split_103 : decode cMO_split 103 = .ok (.istore 4, 2) := by decide +kernel
theorem dMO_split_105 : decode cMO_split 105 = .ok (.iload 4, 2) := by decide +kernel
theorem dMO_split_107 : decode cMO_split 107 = .ok (.iconst 4, 1) := by decide +kernel
theorem dMO_split_108 : decode cMO_split 108 = .ok (.if_icmp .ge 180, 3) := by decide +kernel
theorem dMO_split_111 : decode cMO_split 111 = .ok (.iconst 0, 1) := by decide +kernel
theorem dMO_split_112 : decode cMO_split 112 = .ok (.istore 5, 2) := by decide +kernel
theorem dMO_split_114 : decode cMO_split 114 = .ok (.iload 5, 2) := by decide +kernel
theorem dMO_split_116 : decode cMO_split 116 = .ok (.bipush 8, 2) := by decide +kernel
theorem dMO_split_118 : decode cMO_split 118 = .ok (.if_icmp .ge 35, 3) := by decide +kernel
theorem dMO_split_121 : decode cMO_split 121 = .ok (.aload_n 0, 1) := by decide +kernel
theorem dMO_split_122 : decode cMO_split 122 = .ok (.getfield 56, 3) := by decide +kernel
theorem dMO_split_125 : decode cMO_split 125 = .ok (.iload 5, 2) := by decide +kernel
theorem dMO_split_127 : decode cMO_split 127 = .ok (.iconst 1, 1) := by decide +kernel
theorem dMO_split_128 : decode cMO_split 128 = .ok (.iastore, 1) := by decide +kernel
theorem dMO_split_129 : decode cMO_split 129 = .ok (.aload_n 0, 1) := by decide +kernel
theorem dMO_split_130 : decode cMO_split 130 = .ok (.getfield 59, 3) := by decide +kernel
theorem dMO_split_133 : decode cMO_split 133 = .ok (.iload 5, 2) := by decide +kernel
theorem dMO_split_135 : decode cMO_split 135 = .ok (.aload_n 0, 1) := by decide +kernel
theorem dMO_split_136 : decode cMO_split 136 = .ok (.getfield 16, 3) := by decide +kernel
theorem dMO_split_139 : decode cMO_split 139 = .ok (.iload_n 1, 1) := by decide +kernel
theorem dMO_split_140 : decode cMO_split 140 = .ok (.iaload, 1) := by decide +kernel
theorem dMO_split_141 : decode cMO_split 141 = .ok (.iload 4, 2) := by decide +kernel
theorem dMO_split_143 : decode cMO_split 143 = .ok (.invokestatic 100, 3) := by decide +kernel
theorem dMO_split_146 : decode cMO_split 146 = .ok (.iastore, 1) := by decide +kernel
theorem dMO_split_147 : decode cMO_split 147 = .ok (.iinc 5 1, 3) := by decide +kernel
theorem dMO_split_150 : decode cMO_split 150 = .ok (.goto (-36), 3) := by decide +kernel
theorem dMO_split_153 : decode cMO_split 153 = .ok (.iconst 1, 1) := by decide +kernel
theorem dMO_split_154 : decode cMO_split 154 = .ok (.istore 5, 2) := by decide +kernel
theorem dMO_split_156 : decode cMO_split 156 = .ok (.iload 5, 2) := by decide +kernel
theorem dMO_split_158 : decode cMO_split 158 = .ok (.iload_n 2, 1) := by decide +kernel
theorem dMO_split_159 : decode cMO_split 159 = .ok (.if_icmp .ge 79, 3) := by decide +kernel
theorem dMO_split_162 : decode cMO_split 162 = .ok (.aload_n 0, 1) := by decide +kernel
theorem dMO_split_163 : decode cMO_split 163 = .ok (.invokevirtual 85, 3) := by decide +kernel
theorem dMO_split_166 : decode cMO_split 166 = .ok (.istore 6, 2) := by decide +kernel
theorem dMO_split_168 : decode cMO_split 168 = .ok (.iconst 0, 1) := by decide +kernel
theorem dMO_split_169 : decode cMO_split 169 = .ok (.istore 7, 2) := by decide +kernel
theorem dMO_split_171 : decode cMO_split 171 = .ok (.iload 7, 2) := by decide +kernel
theorem dMO_split_173 : decode cMO_split 173 = .ok (.bipush 8, 2) := by decide +kernel
theorem dMO_split_175 : decode cMO_split 175 = .ok (.if_icmp .ge 57, 3) := by decide +kernel
theorem dMO_split_178 : decode cMO_split 178 = .ok (.aload_n 0, 1) := by decide +kernel
theorem dMO_split_179 : decode cMO_split 179 = .ok (.getfield 56, 3) := by decide +kernel
theorem dMO_split_182 : decode cMO_split 182 = .ok (.iload 7, 2) := by decide +kernel
theorem dMO_split_184 : decode cMO_split 184 = .ok (.aload_n 0, 1) := by decide +kernel
theorem dMO_split_185 : decode cMO_split 185 = .ok (.getfield 56, 3) := by decide +kernel
theorem dMO_split_188 : decode cMO_split 188 = .ok (.iload 7, 2) := by decide +kernel
theorem dMO_split_190 : decode cMO_split 190 = .ok (.iaload, 1) := by decide +kernel
theorem dMO_split_191 : decode cMO_split 191 = .ok (.iload 7, 2) := by decide +kernel
theorem dMO_split_193 : decode cMO_split 193 = .ok (.iconst 1, 1) := by decide +kernel
theorem dMO_split_194 : decode cMO_split 194 = .ok (.iadd, 1) := by decide +kernel
theorem dMO_split_195 : decode cMO_split 195 = .ok (.invokestatic 64, 3) := by decide +kernel
theorem dMO_split_198 : decode cMO_split 198 = .ok (.iastore, 1) := by decide +kernel
theorem dMO_split_199 : decode cMO_split 199 = .ok (.aload_n 0, 1) := by decide +kernel
theorem dMO_split_200 : decode cMO_split 200 = .ok (.getfield 59, 3) := by decide +kernel
theorem dMO_split_203 : decode cMO_split 203 = .ok (.iload 7, 2) := by decide +kernel
theorem dMO_split_205 : decode cMO_split 205 = .ok (.aload_n 0, 1) := by decide +kernel
theorem dMO_split_206 : decode cMO_split 206 = .ok (.getfield 59, 3) := by decide +kernel
theorem dMO_split_209 : decode cMO_split 209 = .ok (.iload 7, 2) := by decide +kernel
theorem dMO_split_211 : decode cMO_split 211 = .ok (.iaload, 1) := by decide +kernel
theorem dMO_split_212 : decode cMO_split 212 = .ok (.iload 6, 2) := by decide +kernel
theorem dMO_split_214 : decode cMO_split 214 = .ok (.aload_n 0, 1) := by decide +kernel
theorem dMO_split_215 : decode cMO_split 215 = .ok (.getfield 56, 3) := by decide +kernel
theorem dMO_split_218 : decode cMO_split 218 = .ok (.iload 7, 2) := by decide +kernel
theorem dMO_split_220 : decode cMO_split 220 = .ok (.iaload, 1) := by decide +kernel
theorem dMO_split_221 : decode cMO_split 221 = .ok (.invokestatic 64, 3) := by decide +kernel
theorem dMO_split_224 : decode cMO_split 224 = .ok (.ixor, 1) := by decide +kernel
theorem dMO_split_225 : decode cMO_split 225 = .ok (.iastore, 1) := by decide +kernel
theorem dMO_split_226 : decode cMO_split 226 = .ok (.iinc 7 1, 3) := by decide +kernel
theorem dMO_split_229 : decode cMO_split 229 = .ok (.goto (-58), 3) := by decide +kernel
theorem dMO_split_232 : decode cMO_split 232 = .ok (.iinc 5 1, 3) := by decide +kernel
theorem dMO_split_235 : decode cMO_split 235 = .ok (.goto (-79), 3) := by decide +kernel
theorem dMO_split_238 : decode cMO_split 238 = .ok (.iconst 0, 1) := by decide +kernel
theorem dMO_split_239 : decode cMO_split 239 = .ok (.istore 5, 2) := by decide +kernel
theorem dMO_split_241 : decode cMO_split 241 = .ok (.iload 5, 2) := by decide +kernel
theorem dMO_split_243 : decode cMO_split 243 = .ok (.iload_n 3, 1) := by decide +kernel
theorem dMO_split_244 : decode cMO_split 244 = .ok (.if_icmp .ge 38, 3) := by decide +kernel
theorem dMO_split_247 : decode cMO_split 247 = .ok (.aload_n 0, 1) := by decide +kernel
theorem dMO_split_248 : decode cMO_split 248 = .ok (.getfield 38, 3) := by decide +kernel
theorem dMO_split_251 : decode cMO_split 251 = .ok (.iload 5, 2) := by decide +kernel
theorem dMO_split_253 : decode cMO_split 253 = .ok (.iconst 1, 1) := by decide +kernel
theorem dMO_split_254 : decode cMO_split 254 = .ok (.iadd, 1) := by decide +kernel
theorem dMO_split_255 : decode cMO_split 255 = .ok (.aload_n 0, 1) := by decide +kernel
theorem dMO_split_256 : decode cMO_split 256 = .ok (.getfield 38, 3) := by decide +kernel
theorem dMO_split_259 : decode cMO_split 259 = .ok (.iload 5, 2) := by decide +kernel
theorem dMO_split_261 : decode cMO_split 261 = .ok (.iconst 1, 1) := by decide +kernel
theorem dMO_split_262 : decode cMO_split 262 = .ok (.iadd, 1) := by decide +kernel
theorem dMO_split_263 : decode cMO_split 263 = .ok (.iaload, 1) := by decide +kernel
theorem dMO_split_264 : decode cMO_split 264 = .ok (.bipush 8, 2) := by decide +kernel
theorem dMO_split_266 : decode cMO_split 266 = .ok (.ishl, 1) := by decide +kernel
theorem dMO_split_267 : decode cMO_split 267 = .ok (.aload_n 0, 1) := by decide +kernel
theorem dMO_split_268 : decode cMO_split 268 = .ok (.getfield 59, 3) := by decide +kernel
theorem dMO_split_271 : decode cMO_split 271 = .ok (.iload 5, 2) := by decide +kernel
theorem dMO_split_273 : decode cMO_split 273 = .ok (.iaload, 1) := by decide +kernel
theorem dMO_split_274 : decode cMO_split 274 = .ok (.ior, 1) := by decide +kernel
theorem dMO_split_275 : decode cMO_split 275 = .ok (.iastore, 1) := by decide +kernel
theorem dMO_split_276 : decode cMO_split 276 = .ok (.iinc 5 1, 3) := by decide +kernel
theorem dMO_split_279 : decode cMO_split 279 = .ok (.goto (-38), 3) := by decide +kernel
theorem dMO_split_282 : decode cMO_split 282 = .ok (.iinc 4 1, 3) := by decide +kernel
theorem dMO_split_285 : decode cMO_split 285 = .ok (.goto (-180), 3) := by decide +kernel
theorem dMO_split_288 : decode cMO_split 288 = .ok (.aload_n 0, 1) := by decide +kernel
theorem dMO_split_289 : decode cMO_split 289 = .ok (.iload_n 3, 1) := by decide +kernel
theorem dMO_split_290 : decode cMO_split 290 = .ok (.putfield 103, 3) := by decide +kernel
theorem dMO_split_293 : decode cMO_split 293 = .ok (.iconst 1, 1) := by decide +kernel
theorem dMO_split_294 : decode cMO_split 294 = .ok (.istore 4, 2) := by decide +kernel
theorem dMO_split_296 : decode cMO_split 296 = .ok (.iload 4, 2) := by decide +kernel
theorem dMO_split_298 : decode cMO_split 298 = .ok (.iload_n 3, 1) := by decide +kernel
theorem dMO_split_299 : decode cMO_split 299 = .ok (.if_icmp .gt 37, 3) := by decide +kernel
theorem dMO_split_302 : decode cMO_split 302 = .ok (.aload_n 0, 1) := by decide +kernel
theorem dMO_split_303 : decode cMO_split 303 = .ok (.getfield 29, 3) := by decide +kernel
theorem dMO_split_306 : decode cMO_split 306 = .ok (.bipush 9, 2) := by decide +kernel
theorem dMO_split_308 : decode cMO_split 308 = .ok (.iload_n 1, 1) := by decide +kernel
theorem dMO_split_309 : decode cMO_split 309 = .ok (.imul, 1) := by decide +kernel
theorem dMO_split_310 : decode cMO_split 310 = .ok (.iload 4, 2) := by decide +kernel
theorem dMO_split_312 : decode cMO_split 312 = .ok (.iadd, 1) := by decide +kernel
theorem dMO_split_313 : decode cMO_split 313 = .ok (.iconst 5, 1) := by decide +kernel
theorem dMO_split_314 : decode cMO_split 314 = .ok (.iload 4, 2) := by decide +kernel
theorem dMO_split_316 : decode cMO_split 316 = .ok (.invokestatic 75, 3) := by decide +kernel
theorem dMO_split_319 : decode cMO_split 319 = .ok (.aload_n 0, 1) := by decide +kernel
theorem dMO_split_320 : decode cMO_split 320 = .ok (.getfield 38, 3) := by decide +kernel
theorem dMO_split_323 : decode cMO_split 323 = .ok (.iload 4, 2) := by decide +kernel
theorem dMO_split_325 : decode cMO_split 325 = .ok (.iaload, 1) := by decide +kernel
theorem dMO_split_326 : decode cMO_split 326 = .ok (.invokestatic 75, 3) := by decide +kernel
theorem dMO_split_329 : decode cMO_split 329 = .ok (.iastore, 1) := by decide +kernel
theorem dMO_split_330 : decode cMO_split 330 = .ok (.iinc 4 1, 3) := by decide +kernel
theorem dMO_split_333 : decode cMO_split 333 = .ok (.goto (-37), 3) := by decide +kernel
theorem dMO_split_336 : decode cMO_split 336 = .ok (.aload_n 0, 1) := by decide +kernel
theorem dMO_split_337 : decode cMO_split 337 = .ok (.getfield 23, 3) := by decide +kernel
theorem dMO_split_340 : decode cMO_split 340 = .ok (.iload_n 1, 1) := by decide +kernel
theorem dMO_split_341 : decode cMO_split 341 = .ok (.iload_n 2, 1) := by decide +kernel
theorem dMO_split_342 : decode cMO_split 342 = .ok (.iastore, 1) := by decide +kernel
theorem dMO_split_343 : decode cMO_split 343 = .ok (.aload_n 0, 1) := by decide +kernel
theorem dMO_split_344 : decode cMO_split 344 = .ok (.getfield 26, 3) := by decide +kernel
theorem dMO_split_347 : decode cMO_split 347 = .ok (.iload_n 1, 1) := by decide +kernel
theorem dMO_split_348 : decode cMO_split 348 = .ok (.iload_n 3, 1) := by decide +kernel
theorem dMO_split_349 : decode cMO_split 349 = .ok (.iastore, 1) := by decide +kernel
theorem dMO_split_350 : decode cMO_split 350 = .ok (.aload_n 0, 1) := by decide +kernel
theorem dMO_split_351 : decode cMO_split 351 = .ok (.iconst 3, 1) := by decide +kernel
theorem dMO_split_352 : decode cMO_split 352 = .ok (.iload_n 1, 1) := by decide +kernel
theorem dMO_split_353 : decode cMO_split 353 = .ok (.bipush 16, 2) := by decide +kernel
theorem dMO_split_355 : decode cMO_split 355 = .ok (.iload_n 2, 1) := by decide +kernel
theorem dMO_split_356 : decode cMO_split 356 = .ok (.imul, 1) := by decide +kernel
theorem dMO_split_357 : decode cMO_split 357 = .ok (.iload_n 3, 1) := by decide +kernel
theorem dMO_split_358 : decode cMO_split 358 = .ok (.iadd, 1) := by decide +kernel
theorem dMO_split_359 : decode cMO_split 359 = .ok (.invokevirtual 88, 3) := by decide +kernel
theorem dMO_split_362 : decode cMO_split 362 = .ok (.iload_n 3, 1) := by decide +kernel
theorem dMO_split_363 : decode cMO_split 363 = .ok (.ireturn, 1) := by decide +kernel
theorem dMO_byteOf_0 : decode cMO_byteOf 0 = .ok (.iload_n 0, 1) := by decide +kernel
theorem dMO_byteOf_1 : decode cMO_byteOf 1 = .ok (.bipush 24, 2) := by decide +kernel
theorem dMO_byteOf_3 : decode cMO_byteOf 3 = .ok (.bipush 8, 2) := by decide +kernel
theorem dMO_byteOf_5 : decode cMO_byteOf 5 = .ok (.iload_n 1, 1) := by decide +kernel
theorem dMO_byteOf_6 : decode cMO_byteOf 6 = .ok (.imul, 1) := by decide +kernel
theorem dMO_byteOf_7 : decode cMO_byteOf 7 = .ok (.isub, 1) := by decide +kernel
theorem dMO_byteOf_8 : decode cMO_byteOf 8 = .ok (.ishr, 1) := by decide +kernel
theorem dMO_byteOf_9 : decode cMO_byteOf 9 = .ok (.sipush 255, 3) := by decide +kernel
theorem dMO_byteOf_12 : decode cMO_byteOf 12 = .ok (.iand, 1) := by decide +kernel
theorem dMO_byteOf_13 : decode cMO_byteOf 13 = .ok (.ireturn, 1) := by decide +kernel
theorem dMO_share_0 : decode cMO_share 0 = .ok (.iload_n 1, 1) := by decide +kernel
theorem dMO_share_1 : decode cMO_share 1 = .ok (.iconst 1, 1) := by decide +kernel
theorem dMO_share_2 : decode cMO_share 2 = .ok (.if_icmp .lt 11, 3) := by decide +kernel
theorem dMO_share_5 : decode cMO_share 5 = .ok (.iload_n 1, 1) := by decide +kernel
theorem dMO_share_6 : decode cMO_share 6 = .ok (.aload_n 0, 1) := by decide +kernel
theorem dMO_share_7 : decode cMO_share 7 = .ok (.getfield 103, 3) := by decide +kernel
theorem dMO_share_10 : decode cMO_share 10 = .ok (.if_icmp .le 7, 3) := by decide +kernel
theorem dMO_share_13 : decode cMO_share 13 = .ok (.iconst 0, 1) := by decide +kernel
theorem dMO_share_14 : decode cMO_share 14 = .ok (.goto 9, 3) := by decide +kernel
theorem dMO_share_17 : decode cMO_share 17 = .ok (.aload_n 0, 1) := by decide +kernel
theorem dMO_share_18 : decode cMO_share 18 = .ok (.getfield 38, 3) := by decide +kernel
theorem dMO_share_21 : decode cMO_share 21 = .ok (.iload_n 1, 1) := by decide +kernel
theorem dMO_share_22 : decode cMO_share 22 = .ok (.iaload, 1) := by decide +kernel
theorem dMO_share_23 : decode cMO_share 23 = .ok (.ireturn, 1) := by decide +kernel
theorem dMO_lock_0 : decode cMO_lock 0 = .ok (.aload_n 0, 1) := by decide +kernel
theorem dMO_lock_1 : decode cMO_lock 1 = .ok (.iload_n 1, 1) := by decide +kernel
theorem dMO_lock_2 : decode cMO_lock 2 = .ok (.invokevirtual 92, 3) := by decide +kernel
theorem dMO_lock_5 : decode cMO_lock 5 = .ok (.ifCond .eq 5, 3) := by decide +kernel
theorem dMO_lock_8 : decode cMO_lock 8 = .ok (.iconst (-1), 1) := by decide +kernel
theorem dMO_lock_9 : decode cMO_lock 9 = .ok (.ireturn, 1) := by decide +kernel
theorem dMO_lock_10 : decode cMO_lock 10 = .ok (.aload_n 0, 1) := by decide +kernel
theorem dMO_lock_11 : decode cMO_lock 11 = .ok (.getfield 13, 3) := by decide +kernel
theorem dMO_lock_14 : decode cMO_lock 14 = .ok (.iload_n 1, 1) := by decide +kernel
theorem dMO_lock_15 : decode cMO_lock 15 = .ok (.iaload, 1) := by decide +kernel
theorem dMO_lock_16 : decode cMO_lock 16 = .ok (.iconst 3, 1) := by decide +kernel
theorem dMO_lock_17 : decode cMO_lock 17 = .ok (.if_icmp .ne 6, 3) := by decide +kernel
theorem dMO_lock_20 : decode cMO_lock 20 = .ok (.bipush (-6), 2) := by decide +kernel
theorem dMO_lock_22 : decode cMO_lock 22 = .ok (.ireturn, 1) := by decide +kernel
theorem dMO_lock_23 : decode cMO_lock 23 = .ok (.aload_n 0, 1) := by decide +kernel
theorem dMO_lock_24 : decode cMO_lock 24 = .ok (.getfield 19, 3) := by decide +kernel
theorem dMO_lock_27 : decode cMO_lock 27 = .ok (.iload_n 1, 1) := by decide +kernel
theorem dMO_lock_28 : decode cMO_lock 28 = .ok (.baload, 1) := by decide +kernel
theorem dMO_lock_29 : decode cMO_lock 29 = .ok (.ifCond .eq 6, 3) := by decide +kernel
theorem dMO_lock_32 : decode cMO_lock 32 = .ok (.bipush (-7), 2) := by decide +kernel
theorem dMO_lock_34 : decode cMO_lock 34 = .ok (.ireturn, 1) := by decide +kernel
theorem dMO_lock_35 : decode cMO_lock 35 = .ok (.aload_n 0, 1) := by decide +kernel
theorem dMO_lock_36 : decode cMO_lock 36 = .ok (.getfield 23, 3) := by decide +kernel
theorem dMO_lock_39 : decode cMO_lock 39 = .ok (.iload_n 1, 1) := by decide +kernel
theorem dMO_lock_40 : decode cMO_lock 40 = .ok (.iaload, 1) := by decide +kernel
theorem dMO_lock_41 : decode cMO_lock 41 = .ok (.ifCond .ne 6, 3) := by decide +kernel
theorem dMO_lock_44 : decode cMO_lock 44 = .ok (.bipush (-4), 2) := by decide +kernel
theorem dMO_lock_46 : decode cMO_lock 46 = .ok (.ireturn, 1) := by decide +kernel
theorem dMO_lock_47 : decode cMO_lock 47 = .ok (.aload_n 0, 1) := by decide +kernel
theorem dMO_lock_48 : decode cMO_lock 48 = .ok (.getfield 72, 3) := by decide +kernel
theorem dMO_lock_51 : decode cMO_lock 51 = .ok (.bipush 80, 2) := by decide +kernel
theorem dMO_lock_53 : decode cMO_lock 53 = .ok (.if_icmp .ne 6, 3) := by decide +kernel
theorem dMO_lock_56 : decode cMO_lock 56 = .ok (.bipush (-2), 2) := by decide +kernel
theorem dMO_lock_58 : decode cMO_lock 58 = .ok (.ireturn, 1) := by decide +kernel
theorem dMO_lock_59 : decode cMO_lock 59 = .ok (.aload_n 0, 1) := by decide +kernel
theorem dMO_lock_60 : decode cMO_lock 60 = .ok (.getfield 19, 3) := by decide +kernel
theorem dMO_lock_63 : decode cMO_lock 63 = .ok (.iload_n 1, 1) := by decide +kernel
theorem dMO_lock_64 : decode cMO_lock 64 = .ok (.iconst 1, 1) := by decide +kernel
theorem dMO_lock_65 : decode cMO_lock 65 = .ok (.bastore, 1) := by decide +kernel
theorem dMO_lock_66 : decode cMO_lock 66 = .ok (.aload_n 0, 1) := by decide +kernel
theorem dMO_lock_67 : decode cMO_lock 67 = .ok (.getfield 16, 3) := by decide +kernel
theorem dMO_lock_70 : decode cMO_lock 70 = .ok (.iload_n 1, 1) := by decide +kernel
theorem dMO_lock_71 : decode cMO_lock 71 = .ok (.iconst 0, 1) := by decide +kernel
theorem dMO_lock_72 : decode cMO_lock 72 = .ok (.iastore, 1) := by decide +kernel
theorem dMO_lock_73 : decode cMO_lock 73 = .ok (.aload_n 0, 1) := by decide +kernel
theorem dMO_lock_74 : decode cMO_lock 74 = .ok (.iload_n 1, 1) := by decide +kernel
theorem dMO_lock_75 : decode cMO_lock 75 = .ok (.invokevirtual 96, 3) := by decide +kernel
theorem dMO_lock_78 : decode cMO_lock 78 = .ok (.aload_n 0, 1) := by decide +kernel
theorem dMO_lock_79 : decode cMO_lock 79 = .ok (.iconst 4, 1) := by decide +kernel
theorem dMO_lock_80 : decode cMO_lock 80 = .ok (.iload_n 1, 1) := by decide +kernel
theorem dMO_lock_81 : decode cMO_lock 81 = .ok (.iconst 0, 1) := by decide +kernel
theorem dMO_lock_82 : decode cMO_lock 82 = .ok (.invokevirtual 88, 3) := by decide +kernel
theorem dMO_lock_85 : decode cMO_lock 85 = .ok (.aload_n 0, 1) := by decide +kernel
theorem dMO_lock_86 : decode cMO_lock 86 = .ok (.getfield 23, 3) := by decide +kernel
theorem dMO_lock_89 : decode cMO_lock 89 = .ok (.iload_n 1, 1) := by decide +kernel
theorem dMO_lock_90 : decode cMO_lock 90 = .ok (.iaload, 1) := by decide +kernel
theorem dMO_lock_91 : decode cMO_lock 91 = .ok (.ireturn, 1) := by decide +kernel
theorem dMO_give_0 : decode cMO_give 0 = .ok (.aload_n 0, 1) := by decide +kernel
theorem dMO_give_1 : decode cMO_give 1 = .ok (.iload_n 1, 1) := by decide +kernel
theorem dMO_give_2 : decode cMO_give 2 = .ok (.invokevirtual 92, 3) := by decide +kernel
theorem dMO_give_5 : decode cMO_give 5 = .ok (.ifCond .eq 5, 3) := by decide +kernel
theorem dMO_give_8 : decode cMO_give 8 = .ok (.iconst (-1), 1) := by decide +kernel
theorem dMO_give_9 : decode cMO_give 9 = .ok (.ireturn, 1) := by decide +kernel
theorem dMO_give_10 : decode cMO_give 10 = .ok (.aload_n 0, 1) := by decide +kernel
theorem dMO_give_11 : decode cMO_give 11 = .ok (.getfield 13, 3) := by decide +kernel
theorem dMO_give_14 : decode cMO_give 14 = .ok (.iload_n 1, 1) := by decide +kernel
theorem dMO_give_15 : decode cMO_give 15 = .ok (.iaload, 1) := by decide +kernel
theorem dMO_give_16 : decode cMO_give 16 = .ok (.iconst 3, 1) := by decide +kernel
theorem dMO_give_17 : decode cMO_give 17 = .ok (.if_icmp .ne 6, 3) := by decide +kernel
theorem dMO_give_20 : decode cMO_give 20 = .ok (.bipush (-6), 2) := by decide +kernel
theorem dMO_give_22 : decode cMO_give 22 = .ok (.ireturn, 1) := by decide +kernel
theorem dMO_give_23 : decode cMO_give 23 = .ok (.aload_n 0, 1) := by decide +kernel
theorem dMO_give_24 : decode cMO_give 24 = .ok (.getfield 19, 3) := by decide +kernel
theorem dMO_give_27 : decode cMO_give 27 = .ok (.iload_n 1, 1) := by decide +kernel
theorem dMO_give_28 : decode cMO_give 28 = .ok (.baload, 1) := by decide +kernel
theorem dMO_give_29 : decode cMO_give 29 = .ok (.ifCond .ne 6, 3) := by decide +kernel
theorem dMO_give_32 : decode cMO_give 32 = .ok (.bipush (-4), 2) := by decide +kernel
theorem dMO_give_34 : decode cMO_give 34 = .ok (.ireturn, 1) := by decide +kernel
theorem dMO_give_35 : decode cMO_give 35 = .ok (.iload_n 2, 1) := by decide +kernel
theorem dMO_give_36 : decode cMO_give 36 = .ok (.iconst 1, 1) := by decide +kernel
theorem dMO_give_37 : decode cMO_give 37 = .ok (.if_icmp .lt 36, 3) := by decide +kernel
theorem dMO_give_40 : decode cMO_give 40 = .ok (.iload_n 2, 1) := by decide +kernel
theorem dMO_give_41 : decode cMO_give 41 = .ok (.aload_n 0, 1) := by decide +kernel
theorem dMO_give_42 : decode cMO_give 42 = .ok (.getfield 26, 3) := by decide +kernel
theorem dMO_give_45 : decode cMO_give 45 = .ok (.iload_n 1, 1) := by decide +kernel
theorem dMO_give_46 : decode cMO_give 46 = .ok (.iaload, 1) := by decide +kernel
theorem dMO_give_47 : decode cMO_give 47 = .ok (.if_icmp .gt 26, 3) := by decide +kernel
theorem dMO_give_50 : decode cMO_give 50 = .ok (.aload_n 0, 1) := by decide +kernel
theorem dMO_give_51 : decode cMO_give 51 = .ok (.getfield 29, 3) := by decide +kernel
theorem dMO_give_54 : decode cMO_give 54 = .ok (.bipush 9, 2) := by decide +kernel
theorem dMO_give_56 : decode cMO_give 56 = .ok (.iload_n 1, 1) := by decide +kernel
theorem dMO_give_57 : decode cMO_give 57 = .ok (.imul, 1) := by decide +kernel
theorem dMO_give_58 : decode cMO_give 58 = .ok (.iload_n 2, 1) := by decide +kernel
theorem dMO_give_59 : decode cMO_give 59 = .ok (.iadd, 1) := by decide +kernel
theorem dMO_give_60 : decode cMO_give 60 = .ok (.iaload, 1) := by decide +kernel
theorem dMO_give_61 : decode cMO_give 61 = .ok (.iconst 5, 1) := by decide +kernel
theorem dMO_give_62 : decode cMO_give 62 = .ok (.iload_n 2, 1) := by decide +kernel
theorem dMO_give_63 : decode cMO_give 63 = .ok (.invokestatic 75, 3) := by decide +kernel
theorem dMO_give_66 : decode cMO_give 66 = .ok (.iload_n 3, 1) := by decide +kernel
theorem dMO_give_67 : decode cMO_give 67 = .ok (.invokestatic 75, 3) := by decide +kernel
theorem dMO_give_70 : decode cMO_give 70 = .ok (.if_icmp .eq 6, 3) := by decide +kernel
theorem dMO_give_73 : decode cMO_give 73 = .ok (.bipush (-8), 2) := by decide +kernel
theorem dMO_give_75 : decode cMO_give 75 = .ok (.ireturn, 1) := by decide +kernel
theorem dMO_give_76 : decode cMO_give 76 = .ok (.aload_n 0, 1) := by decide +kernel
theorem dMO_give_77 : decode cMO_give 77 = .ok (.getfield 23, 3) := by decide +kernel
theorem dMO_give_80 : decode cMO_give 80 = .ok (.iload_n 1, 1) := by decide +kernel
theorem dMO_give_81 : decode cMO_give 81 = .ok (.iaload, 1) := by decide +kernel
theorem dMO_give_82 : decode cMO_give 82 = .ok (.aload_n 0, 1) := by decide +kernel
theorem dMO_give_83 : decode cMO_give 83 = .ok (.iload_n 1, 1) := by decide +kernel
theorem dMO_give_84 : decode cMO_give 84 = .ok (.invokevirtual 113, 3) := by decide +kernel
theorem dMO_give_87 : decode cMO_give 87 = .ok (.isub, 1) := by decide +kernel
theorem dMO_give_88 : decode cMO_give 88 = .ok (.istore 4, 2) := by decide +kernel
theorem dMO_give_90 : decode cMO_give 90 = .ok (.aload_n 0, 1) := by decide +kernel
theorem dMO_give_91 : decode cMO_give 91 = .ok (.getfield 35, 3) := by decide +kernel
theorem dMO_give_94 : decode cMO_give 94 = .ok (.bipush 9, 2) := by decide +kernel
theorem dMO_give_96 : decode cMO_give 96 = .ok (.iload_n 1, 1) := by decide +kernel
theorem dMO_give_97 : decode cMO_give 97 = .ok (.imul, 1) := by decide +kernel
theorem dMO_give_98 : decode cMO_give 98 = .ok (.iload_n 2, 1) := by decide +kernel
theorem dMO_give_99 : decode cMO_give 99 = .ok (.iadd, 1) := by decide +kernel
theorem dMO_give_100 : decode cMO_give 100 = .ok (.baload, 1) := by decide +kernel
theorem dMO_give_101 : decode cMO_give 101 = .ok (.ifCond .eq 6, 3) := by decide +kernel
theorem dMO_give_104 : decode cMO_give 104 = .ok (.iload 4, 2) := by decide +kernel
theorem dMO_give_106 : decode cMO_give 106 = .ok (.ireturn, 1) := by decide +kernel
theorem dMO_give_107 : decode cMO_give 107 = .ok (.aload_n 0, 1) := by decide +kernel
theorem dMO_give_108 : decode cMO_give 108 = .ok (.getfield 72, 3) := by decide +kernel
theorem dMO_give_111 : decode cMO_give 111 = .ok (.iload 4, 2) := by decide +kernel
theorem dMO_give_113 : decode cMO_give 113 = .ok (.iconst 1, 1) := by decide +kernel
theorem dMO_give_114 : decode cMO_give 114 = .ok (.if_icmp .ne 7, 3) := by decide +kernel
theorem dMO_give_117 : decode cMO_give 117 = .ok (.iconst 2, 1) := by decide +kernel
theorem dMO_give_118 : decode cMO_give 118 = .ok (.goto 4, 3) := by decide +kernel
theorem dMO_give_121 : decode cMO_give 121 = .ok (.iconst 1, 1) := by decide +kernel
theorem dMO_give_122 : decode cMO_give 122 = .ok (.iadd, 1) := by decide +kernel
theorem dMO_give_123 : decode cMO_give 123 = .ok (.bipush 80, 2) := by decide +kernel
theorem dMO_give_125 : decode cMO_give 125 = .ok (.if_icmp .le 6, 3) := by decide +kernel
theorem dMO_give_128 : decode cMO_give 128 = .ok (.bipush (-2), 2) := by decide +kernel
theorem dMO_give_130 : decode cMO_give 130 = .ok (.ireturn, 1) := by decide +kernel
theorem dMO_give_131 : decode cMO_give 131 = .ok (.aload_n 0, 1) := by decide +kernel
theorem dMO_give_132 : decode cMO_give 132 = .ok (.getfield 35, 3) := by decide +kernel
theorem dMO_give_135 : decode cMO_give 135 = .ok (.bipush 9, 2) := by decide +kernel
theorem dMO_give_137 : decode cMO_give 137 = .ok (.iload_n 1, 1) := by decide +kernel
theorem dMO_give_138 : decode cMO_give 138 = .ok (.imul, 1) := by decide +kernel
theorem dMO_give_139 : decode cMO_give 139 = .ok (.iload_n 2, 1) := by decide +kernel
theorem dMO_give_140 : decode cMO_give 140 = .ok (.iadd, 1) := by decide +kernel
theorem dMO_give_141 : decode cMO_give 141 = .ok (.iconst 1, 1) := by decide +kernel
theorem dMO_give_142 : decode cMO_give 142 = .ok (.bastore, 1) := by decide +kernel
theorem dMO_give_143 : decode cMO_give 143 = .ok (.aload_n 0, 1) := by decide +kernel
theorem dMO_give_144 : decode cMO_give 144 = .ok (.getfield 32, 3) := by decide +kernel
theorem dMO_give_147 : decode cMO_give 147 = .ok (.bipush 9, 2) := by decide +kernel
theorem dMO_give_149 : decode cMO_give 149 = .ok (.iload_n 1, 1) := by decide +kernel
theorem dMO_give_150 : decode cMO_give 150 = .ok (.imul, 1) := by decide +kernel
theorem dMO_give_151 : decode cMO_give 151 = .ok (.iload_n 2, 1) := by decide +kernel
theorem dMO_give_152 : decode cMO_give 152 = .ok (.iadd, 1) := by decide +kernel
theorem dMO_give_153 : decode cMO_give 153 = .ok (.iload_n 3, 1) := by decide +kernel
theorem dMO_give_154 : decode cMO_give 154 = .ok (.iastore, 1) := by decide +kernel
theorem dMO_give_155 : decode cMO_give 155 = .ok (.aload_n 0, 1) := by decide +kernel
theorem dMO_give_156 : decode cMO_give 156 = .ok (.iconst 5, 1) := by decide +kernel
theorem dMO_give_157 : decode cMO_give 157 = .ok (.iload_n 1, 1) := by decide +kernel
theorem dMO_give_158 : decode cMO_give 158 = .ok (.iload_n 2, 1) := by decide +kernel
theorem dMO_give_159 : decode cMO_give 159 = .ok (.invokevirtual 88, 3) := by decide +kernel
theorem dMO_give_162 : decode cMO_give 162 = .ok (.iload 4, 2) := by decide +kernel
theorem dMO_give_164 : decode cMO_give 164 = .ok (.iconst 1, 1) := by decide +kernel
theorem dMO_give_165 : decode cMO_give 165 = .ok (.if_icmp .ne 39, 3) := by decide +kernel
theorem dMO_give_168 : decode cMO_give 168 = .ok (.aload_n 0, 1) := by decide +kernel
theorem dMO_give_169 : decode cMO_give 169 = .ok (.getfield 16, 3) := by decide +kernel
theorem dMO_give_172 : decode cMO_give 172 = .ok (.iload_n 1, 1) := by decide +kernel
theorem dMO_give_173 : decode cMO_give 173 = .ok (.aload_n 0, 1) := by decide +kernel
theorem dMO_give_174 : decode cMO_give 174 = .ok (.iload_n 1, 1) := by decide +kernel
theorem dMO_give_175 : decode cMO_give 175 = .ok (.invokevirtual 116, 3) := by decide +kernel
theorem dMO_give_178 : decode cMO_give 178 = .ok (.iastore, 1) := by decide +kernel
theorem dMO_give_179 : decode cMO_give 179 = .ok (.aload_n 0, 1) := by decide +kernel
theorem dMO_give_180 : decode cMO_give 180 = .ok (.getfield 19, 3) := by decide +kernel
theorem dMO_give_183 : decode cMO_give 183 = .ok (.iload_n 1, 1) := by decide +kernel
theorem dMO_give_184 : decode cMO_give 184 = .ok (.iconst 0, 1) := by decide +kernel
theorem dMO_give_185 : decode cMO_give 185 = .ok (.bastore, 1) := by decide +kernel
theorem dMO_give_186 : decode cMO_give 186 = .ok (.aload_n 0, 1) := by decide +kernel
theorem dMO_give_187 : decode cMO_give 187 = .ok (.iload_n 1, 1) := by decide +kernel
theorem dMO_give_188 : decode cMO_give 188 = .ok (.invokevirtual 96, 3) := by decide +kernel
theorem dMO_give_191 : decode cMO_give 191 = .ok (.aload_n 0, 1) := by decide +kernel
theorem dMO_give_192 : decode cMO_give 192 = .ok (.bipush 6, 2) := by decide +kernel
theorem dMO_give_194 : decode cMO_give 194 = .ok (.iload_n 1, 1) := by decide +kernel
theorem dMO_give_195 : decode cMO_give 195 = .ok (.aload_n 0, 1) := by decide +kernel
theorem dMO_give_196 : decode cMO_give 196 = .ok (.getfield 23, 3) := by decide +kernel
theorem dMO_give_199 : decode cMO_give 199 = .ok (.iload_n 1, 1) := by decide +kernel
theorem dMO_give_200 : decode cMO_give 200 = .ok (.iaload, 1) := by decide +kernel
theorem dMO_give_201 : decode cMO_give 201 = .ok (.invokevirtual 88, 3) := by decide +kernel
theorem dMO_give_204 : decode cMO_give 204 = .ok (.iload 4, 2) := by decide +kernel
theorem dMO_give_206 : decode cMO_give 206 = .ok (.iconst 1, 1) := by decide +kernel
theorem dMO_give_207 : decode cMO_give 207 = .ok (.isub, 1) := by decide +kernel
theorem dMO_give_208 : decode cMO_give 208 = .ok (.ireturn, 1) := by decide +kernel
theorem dMO_givenTo_0 : decode cMO_givenTo 0 = .ok (.iconst 0, 1) := by decide +kernel
theorem dMO_givenTo_1 : decode cMO_givenTo 1 = .ok (.istore_n 2, 1) := by decide +kernel
theorem dMO_givenTo_2 : decode cMO_givenTo 2 = .ok (.iconst 1, 1) := by decide +kernel
theorem dMO_givenTo_3 : decode cMO_givenTo 3 = .ok (.istore_n 3, 1) := by decide +kernel
theorem dMO_givenTo_4 : decode cMO_givenTo 4 = .ok (.iload_n 3, 1) := by decide +kernel
theorem dMO_givenTo_5 : decode cMO_givenTo 5 = .ok (.bipush 9, 2) := by decide +kernel
theorem dMO_givenTo_7 : decode cMO_givenTo 7 = .ok (.if_icmp .ge 31, 3) := by decide +kernel
theorem dMO_givenTo_10 : decode cMO_givenTo 10 = .ok (.aload_n 0, 1) := by decide +kernel
theorem dMO_givenTo_11 : decode cMO_givenTo 11 = .ok (.getfield 35, 3) := by decide +kernel
theorem dMO_givenTo_14 : decode cMO_givenTo 14 = .ok (.bipush 9, 2) := by decide +kernel
theorem dMO_givenTo_16 : decode cMO_givenTo 16 = .ok (.iload_n 1, 1) := by decide +kernel
theorem dMO_givenTo_17 : decode cMO_givenTo 17 = .ok (.imul, 1) := by decide +kernel
theorem dMO_givenTo_18 : decode cMO_givenTo 18 = .ok (.iload_n 3, 1) := by decide +kernel
theorem dMO_givenTo_19 : decode cMO_givenTo 19 = .ok (.iadd, 1) := by decide +kernel
theorem dMO_givenTo_20 : decode cMO_givenTo 20 = .ok (.baload, 1) := by decide +kernel
theorem dMO_givenTo_21 : decode cMO_givenTo 21 = .ok (.ifCond .eq 9, 3) := by decide +kernel
theorem dMO_givenTo_24 : decode cMO_givenTo 24 = .ok (.iload_n 2, 1) := by decide +kernel
theorem dMO_givenTo_25 : decode cMO_givenTo 25 = .ok (.iconst 1, 1) := by decide +kernel
theorem dMO_givenTo_26 : decode cMO_givenTo 26 = .ok (.iadd, 1) := by decide +kernel
theorem dMO_givenTo_27 : decode cMO_givenTo 27 = .ok (.goto 4, 3) := by decide +kernel
theorem dMO_givenTo_30 : decode cMO_givenTo 30 = .ok (.iload_n 2, 1) := by decide +kernel
theorem dMO_givenTo_31 : decode cMO_givenTo 31 = .ok (.istore_n 2, 1) := by decide +kernel
theorem dMO_givenTo_32 : decode cMO_givenTo 32 = .ok (.iinc 3 1, 3) := by decide +kernel
theorem dMO_givenTo_35 : decode cMO_givenTo 35 = .ok (.goto (-31), 3) := by decide +kernel
theorem dMO_givenTo_38 : decode cMO_givenTo 38 = .ok (.iload_n 2, 1) := by decide +kernel
theorem dMO_givenTo_39 : decode cMO_givenTo 39 = .ok (.ireturn, 1) := by decide +kernel
theorem dMO_together_0 : decode cMO_together 0 = .ok (.iconst 0, 1) := by decide +kernel
theorem dMO_together_1 : decode cMO_together 1 = .ok (.istore_n 2, 1) := by decide +kernel
theorem dMO_together_2 : decode cMO_together 2 = .ok (.iconst 0, 1) := by decide +kernel
theorem dMO_together_3 : decode cMO_together 3 = .ok (.istore_n 3, 1) := by decide +kernel
theorem dMO_together_4 : decode cMO_together 4 = .ok (.iload_n 3, 1) := by decide +kernel
theorem dMO_together_5 : decode cMO_together 5 = .ok (.iconst 4, 1) := by decide +kernel
theorem dMO_together_6 : decode cMO_together 6 = .ok (.if_icmp .ge 90, 3) := by decide +kernel
theorem dMO_together_9 : decode cMO_together 9 = .ok (.iconst 0, 1) := by decide +kernel
theorem dMO_together_10 : decode cMO_together 10 = .ok (.istore 4, 2) := by decide +kernel
theorem dMO_together_12 : decode cMO_together 12 = .ok (.iconst 1, 1) := by decide +kernel
theorem dMO_together_13 : decode cMO_together 13 = .ok (.istore 5, 2) := by decide +kernel
theorem dMO_together_15 : decode cMO_together 15 = .ok (.iload 5, 2) := by decide +kernel
theorem dMO_together_17 : decode cMO_together 17 = .ok (.bipush 9, 2) := by decide +kernel
theorem dMO_together_19 : decode cMO_together 19 = .ok (.if_icmp .ge 59, 3) := by decide +kernel
theorem dMO_together_22 : decode cMO_together 22 = .ok (.aload_n 0, 1) := by decide +kernel
theorem dMO_together_23 : decode cMO_together 23 = .ok (.getfield 35, 3) := by decide +kernel
theorem dMO_together_26 : decode cMO_together 26 = .ok (.bipush 9, 2) := by decide +kernel
theorem dMO_together_28 : decode cMO_together 28 = .ok (.iload_n 1, 1) := by decide +kernel
theorem dMO_together_29 : decode cMO_together 29 = .ok (.imul, 1) := by decide +kernel
theorem dMO_together_30 : decode cMO_together 30 = .ok (.iload 5, 2) := by decide +kernel
theorem dMO_together_32 : decode cMO_together 32 = .ok (.iadd, 1) := by decide +kernel
theorem dMO_together_33 : decode cMO_together 33 = .ok (.baload, 1) := by decide +kernel
theorem dMO_together_34 : decode cMO_together 34 = .ok (.ifCond .eq 38, 3) := by decide +kernel
theorem dMO_together_37 : decode cMO_together 37 = .ok (.aload_n 0, 1) := by decide +kernel
theorem dMO_together_38 : decode cMO_together 38 = .ok (.getfield 56, 3) := by decide +kernel
theorem dMO_together_41 : decode cMO_together 41 = .ok (.iload 4, 2) := by decide +kernel
theorem dMO_together_43 : decode cMO_together 43 = .ok (.iload 5, 2) := by decide +kernel
theorem dMO_together_45 : decode cMO_together 45 = .ok (.iastore, 1) := by decide +kernel
theorem dMO_together_46 : decode cMO_together 46 = .ok (.aload_n 0, 1) := by decide +kernel
theorem dMO_together_47 : decode cMO_together 47 = .ok (.getfield 59, 3) := by decide +kernel
theorem dMO_together_50 : decode cMO_together 50 = .ok (.iload 4, 2) := by decide +kernel
theorem dMO_together_52 : decode cMO_together 52 = .ok (.aload_n 0, 1) := by decide +kernel
theorem dMO_together_53 : decode cMO_together 53 = .ok (.getfield 32, 3) := by decide +kernel
theorem dMO_together_56 : decode cMO_together 56 = .ok (.bipush 9, 2) := by decide +kernel
theorem dMO_together_58 : decode cMO_together 58 = .ok (.iload_n 1, 1) := by decide +kernel
theorem dMO_together_59 : decode cMO_together 59 = .ok (.imul, 1) := by decide +kernel
theorem dMO_together_60 : decode cMO_together 60 = .ok (.iload 5, 2) := by decide +kernel
theorem dMO_together_62 : decode cMO_together 62 = .ok (.iadd, 1) := by decide +kernel
theorem dMO_together_63 : decode cMO_together 63 = .ok (.iaload, 1) := by decide +kernel
theorem dMO_together_64 : decode cMO_together 64 = .ok (.iload_n 3, 1) := by decide +kernel
theorem dMO_together_65 : decode cMO_together 65 = .ok (.invokestatic 100, 3) := by decide +kernel
theorem dMO_together_68 : decode cMO_together 68 = .ok (.iastore, 1) := by decide +kernel
theorem dMO_together_69 : decode cMO_together 69 = .ok (.iinc 4 1, 3) := by decide +kernel
theorem dMO_together_72 : decode cMO_together 72 = .ok (.iinc 5 1, 3) := by decide +kernel
theorem dMO_together_75 : decode cMO_together 75 = .ok (.goto (-60), 3) := by decide +kernel
theorem dMO_together_78 : decode cMO_together 78 = .ok (.iload_n 2, 1) := by decide +kernel
theorem dMO_together_79 : decode cMO_together 79 = .ok (.bipush 8, 2) := by decide +kernel
theorem dMO_together_81 : decode cMO_together 81 = .ok (.ishl, 1) := by decide +kernel
theorem dMO_together_82 : decode cMO_together 82 = .ok (.aload_n 0, 1) := by decide +kernel
theorem dMO_together_83 : decode cMO_together 83 = .ok (.iload 4, 2) := by decide +kernel
theorem dMO_together_85 : decode cMO_together 85 = .ok (.invokevirtual 109, 3) := by decide +kernel
theorem dMO_together_88 : decode cMO_together 88 = .ok (.ior, 1) := by decide +kernel
theorem dMO_together_89 : decode cMO_together 89 = .ok (.istore_n 2, 1) := by decide +kernel
theorem dMO_together_90 : decode cMO_together 90 = .ok (.iinc 3 1, 3) := by decide +kernel
theorem dMO_together_93 : decode cMO_together 93 = .ok (.goto (-89), 3) := by decide +kernel
theorem dMO_together_96 : decode cMO_together 96 = .ok (.iload_n 2, 1) := by decide +kernel
theorem dMO_together_97 : decode cMO_together 97 = .ok (.ireturn, 1) := by decide +kernel
theorem dMO_atNothing_0 : decode cMO_atNothing 0 = .ok (.iload_n 1, 1) := by decide +kernel
theorem dMO_atNothing_1 : decode cMO_atNothing 1 = .ok (.iconst 1, 1) := by decide +kernel
theorem dMO_atNothing_2 : decode cMO_atNothing 2 = .ok (.isub, 1) := by decide +kernel
theorem dMO_atNothing_3 : decode cMO_atNothing 3 = .ok (.istore_n 2, 1) := by decide +kernel
theorem dMO_atNothing_4 : decode cMO_atNothing 4 = .ok (.iload_n 2, 1) := by decide +kernel
theorem dMO_atNothing_5 : decode cMO_atNothing 5 = .ok (.ifCond .le 57, 3) := by decide +kernel
theorem dMO_atNothing_8 : decode cMO_atNothing 8 = .ok (.iconst 0, 1) := by decide +kernel
theorem dMO_atNothing_9 : decode cMO_atNothing 9 = .ok (.istore_n 3, 1) := by decide +kernel
theorem dMO_atNothing_10 : decode cMO_atNothing 10 = .ok (.iload_n 3, 1) := by decide +kernel
theorem dMO_atNothing_11 : decode cMO_atNothing 11 = .ok (.iload_n 2, 1) := by decide +kernel
theorem dMO_atNothing_12 : decode cMO_atNothing 12 = .ok (.if_icmp .ge 44, 3) := by decide +kernel
theorem dMO_atNothing_15 : decode cMO_atNothing 15 = .ok (.aload_n 0, 1) := by decide +kernel
theorem dMO_atNothing_16 : decode cMO_atNothing 16 = .ok (.getfield 59, 3) := by decide +kernel
theorem dMO_atNothing_19 : decode cMO_atNothing 19 = .ok (.iload_n 3, 1) := by decide +kernel
theorem dMO_atNothing_20 : decode cMO_atNothing 20 = .ok (.aload_n 0, 1) := by decide +kernel
theorem dMO_atNothing_21 : decode cMO_atNothing 21 = .ok (.getfield 59, 3) := by decide +kernel
theorem dMO_atNothing_24 : decode cMO_atNothing 24 = .ok (.iload_n 3, 1) := by decide +kernel
theorem dMO_atNothing_25 : decode cMO_atNothing 25 = .ok (.iaload, 1) := by decide +kernel
theorem dMO_atNothing_26 : decode cMO_atNothing 26 = .ok (.aload_n 0, 1) := by decide +kernel
theorem dMO_atNothing_27 : decode cMO_atNothing 27 = .ok (.getfield 59, 3) := by decide +kernel
theorem dMO_atNothing_30 : decode cMO_atNothing 30 = .ok (.iload_n 2, 1) := by decide +kernel
theorem dMO_atNothing_31 : decode cMO_atNothing 31 = .ok (.iaload, 1) := by decide +kernel
theorem dMO_atNothing_32 : decode cMO_atNothing 32 = .ok (.ixor, 1) := by decide +kernel
theorem dMO_atNothing_33 : decode cMO_atNothing 33 = .ok (.aload_n 0, 1) := by decide +kernel
theorem dMO_atNothing_34 : decode cMO_atNothing 34 = .ok (.getfield 56, 3) := by decide +kernel
theorem dMO_atNothing_37 : decode cMO_atNothing 37 = .ok (.iload_n 3, 1) := by decide +kernel
theorem dMO_atNothing_38 : decode cMO_atNothing 38 = .ok (.iaload, 1) := by decide +kernel
theorem dMO_atNothing_39 : decode cMO_atNothing 39 = .ok (.aload_n 0, 1) := by decide +kernel
theorem dMO_atNothing_40 : decode cMO_atNothing 40 = .ok (.getfield 56, 3) := by decide +kernel
theorem dMO_atNothing_43 : decode cMO_atNothing 43 = .ok (.iload_n 2, 1) := by decide +kernel
theorem dMO_atNothing_44 : decode cMO_atNothing 44 = .ok (.iaload, 1) := by decide +kernel
theorem dMO_atNothing_45 : decode cMO_atNothing 45 = .ok (.ixor, 1) := by decide +kernel
theorem dMO_atNothing_46 : decode cMO_atNothing 46 = .ok (.invokestatic 106, 3) := by decide +kernel
theorem dMO_atNothing_49 : decode cMO_atNothing 49 = .ok (.iastore, 1) := by decide +kernel
theorem dMO_atNothing_50 : decode cMO_atNothing 50 = .ok (.iinc 3 1, 3) := by decide +kernel
theorem dMO_atNothing_53 : decode cMO_atNothing 53 = .ok (.goto (-43), 3) := by decide +kernel
theorem dMO_atNothing_56 : decode cMO_atNothing 56 = .ok (.iinc 2 (-1), 3) := by decide +kernel
theorem dMO_atNothing_59 : decode cMO_atNothing 59 = .ok (.goto (-55), 3) := by decide +kernel
theorem dMO_atNothing_62 : decode cMO_atNothing 62 = .ok (.aload_n 0, 1) := by decide +kernel
theorem dMO_atNothing_63 : decode cMO_atNothing 63 = .ok (.getfield 59, 3) := by decide +kernel
theorem dMO_atNothing_66 : decode cMO_atNothing 66 = .ok (.iconst 0, 1) := by decide +kernel
theorem dMO_atNothing_67 : decode cMO_atNothing 67 = .ok (.iaload, 1) := by decide +kernel
theorem dMO_atNothing_68 : decode cMO_atNothing 68 = .ok (.istore_n 2, 1) := by decide +kernel
theorem dMO_atNothing_69 : decode cMO_atNothing 69 = .ok (.iconst 1, 1) := by decide +kernel
theorem dMO_atNothing_70 : decode cMO_atNothing 70 = .ok (.istore_n 3, 1) := by decide +kernel
theorem dMO_atNothing_71 : decode cMO_atNothing 71 = .ok (.iload_n 3, 1) := by decide +kernel
theorem dMO_atNothing_72 : decode cMO_atNothing 72 = .ok (.iload_n 1, 1) := by decide +kernel
theorem dMO_atNothing_73 : decode cMO_atNothing 73 = .ok (.if_icmp .ge 27, 3) := by decide +kernel
theorem dMO_atNothing_76 : decode cMO_atNothing 76 = .ok (.aload_n 0, 1) := by decide +kernel
theorem dMO_atNothing_77 : decode cMO_atNothing 77 = .ok (.getfield 59, 3) := by decide +kernel
theorem dMO_atNothing_80 : decode cMO_atNothing 80 = .ok (.iload_n 3, 1) := by decide +kernel
theorem dMO_atNothing_81 : decode cMO_atNothing 81 = .ok (.iaload, 1) := by decide +kernel
theorem dMO_atNothing_82 : decode cMO_atNothing 82 = .ok (.aload_n 0, 1) := by decide +kernel
theorem dMO_atNothing_83 : decode cMO_atNothing 83 = .ok (.getfield 56, 3) := by decide +kernel
theorem dMO_atNothing_86 : decode cMO_atNothing 86 = .ok (.iload_n 3, 1) := by decide +kernel
theorem dMO_atNothing_87 : decode cMO_atNothing 87 = .ok (.iaload, 1) := by decide +kernel
theorem dMO_atNothing_88 : decode cMO_atNothing 88 = .ok (.iload_n 2, 1) := by decide +kernel
theorem dMO_atNothing_89 : decode cMO_atNothing 89 = .ok (.invokestatic 64, 3) := by decide +kernel
theorem dMO_atNothing_92 : decode cMO_atNothing 92 = .ok (.ixor, 1) := by decide +kernel
theorem dMO_atNothing_93 : decode cMO_atNothing 93 = .ok (.istore_n 2, 1) := by decide +kernel
theorem dMO_atNothing_94 : decode cMO_atNothing 94 = .ok (.iinc 3 1, 3) := by decide +kernel
theorem dMO_atNothing_97 : decode cMO_atNothing 97 = .ok (.goto (-26), 3) := by decide +kernel
theorem dMO_atNothing_100 : decode cMO_atNothing 100 = .ok (.iload_n 2, 1) := by decide +kernel
theorem dMO_atNothing_101 : decode cMO_atNothing 101 = .ok (.ireturn, 1) := by decide +kernel
theorem dMO_quotient_0 : decode cMO_quotient 0 = .ok (.iconst 0, 1) := by decide +kernel
theorem dMO_quotient_1 : decode cMO_quotient 1 = .ok (.istore_n 2, 1) := by decide +kernel
theorem dMO_quotient_2 : decode cMO_quotient 2 = .ok (.iload_n 2, 1) := by decide +kernel
theorem dMO_quotient_3 : decode cMO_quotient 3 = .ok (.sipush 255, 3) := by decide +kernel
theorem dMO_quotient_6 : decode cMO_quotient 6 = .ok (.if_icmp .ge 18, 3) := by decide +kernel
theorem dMO_quotient_9 : decode cMO_quotient 9 = .ok (.iload_n 2, 1) := by decide +kernel
theorem dMO_quotient_10 : decode cMO_quotient 10 = .ok (.iload_n 1, 1) := by decide +kernel
theorem dMO_quotient_11 : decode cMO_quotient 11 = .ok (.invokestatic 64, 3) := by decide +kernel
theorem dMO_quotient_14 : decode cMO_quotient 14 = .ok (.iload_n 0, 1) := by decide +kernel
theorem dMO_quotient_15 : decode cMO_quotient 15 = .ok (.if_icmp .eq 9, 3) := by decide +kernel
theorem dMO_quotient_18 : decode cMO_quotient 18 = .ok (.iinc 2 1, 3) := by decide +kernel
theorem dMO_quotient_21 : decode cMO_quotient 21 = .ok (.goto (-19), 3) := by decide +kernel
theorem dMO_quotient_24 : decode cMO_quotient 24 = .ok (.iload_n 2, 1) := by decide +kernel
theorem dMO_quotient_25 : decode cMO_quotient 25 = .ok (.ireturn, 1) := by decide +kernel
theorem dMO_wrap_0 : decode cMO_wrap 0 = .ok (.aload_n 0, 1) := by decide +kernel
theorem dMO_wrap_1 : decode cMO_wrap 1 = .ok (.invokevirtual 81, 3) := by decide +kernel
theorem dMO_wrap_4 : decode cMO_wrap 4 = .ok (.istore_n 2, 1) := by decide +kernel
theorem dMO_wrap_5 : decode cMO_wrap 5 = .ok (.iload_n 2, 1) := by decide +kernel
theorem dMO_wrap_6 : decode cMO_wrap 6 = .ok (.ifCond .ge 6, 3) := by decide +kernel
theorem dMO_wrap_9 : decode cMO_wrap 9 = .ok (.bipush (-4), 2) := by decide +kernel
theorem dMO_wrap_11 : decode cMO_wrap 11 = .ok (.ireturn, 1) := by decide +kernel
theorem dMO_wrap_12 : decode cMO_wrap 12 = .ok (.aload_n 0, 1) := by decide +kernel
theorem dMO_wrap_13 : decode cMO_wrap 13 = .ok (.getfield 19, 3) := by decide +kernel
theorem dMO_wrap_16 : decode cMO_wrap 16 = .ok (.iload_n 2, 1) := by decide +kernel
theorem dMO_wrap_17 : decode cMO_wrap 17 = .ok (.baload, 1) := by decide +kernel
theorem dMO_wrap_18 : decode cMO_wrap 18 = .ok (.ifCond .eq 6, 3) := by decide +kernel
theorem dMO_wrap_21 : decode cMO_wrap 21 = .ok (.bipush (-7), 2) := by decide +kernel
theorem dMO_wrap_23 : decode cMO_wrap 23 = .ok (.ireturn, 1) := by decide +kernel
theorem dMO_wrap_24 : decode cMO_wrap 24 = .ok (.iload_n 1, 1) := by decide +kernel
theorem dMO_wrap_25 : decode cMO_wrap 25 = .ok (.aload_n 0, 1) := by decide +kernel
theorem dMO_wrap_26 : decode cMO_wrap 26 = .ok (.getfield 16, 3) := by decide +kernel
theorem dMO_wrap_29 : decode cMO_wrap 29 = .ok (.iload_n 2, 1) := by decide +kernel
theorem dMO_wrap_30 : decode cMO_wrap 30 = .ok (.iaload, 1) := by decide +kernel
theorem dMO_wrap_31 : decode cMO_wrap 31 = .ok (.aload_n 0, 1) := by decide +kernel
theorem dMO_wrap_32 : decode cMO_wrap 32 = .ok (.getfield 120, 3) := by decide +kernel
theorem dMO_wrap_35 : decode cMO_wrap 35 = .ok (.invokestatic 123, 3) := by decide +kernel
theorem dMO_wrap_38 : decode cMO_wrap 38 = .ok (.ixor, 1) := by decide +kernel
theorem dMO_wrap_39 : decode cMO_wrap 39 = .ok (.istore_n 3, 1) := by decide +kernel
theorem dMO_wrap_40 : decode cMO_wrap 40 = .ok (.aload_n 0, 1) := by decide +kernel
theorem dMO_wrap_41 : decode cMO_wrap 41 = .ok (.getfield 16, 3) := by decide +kernel
theorem dMO_wrap_44 : decode cMO_wrap 44 = .ok (.iload_n 2, 1) := by decide +kernel
theorem dMO_wrap_45 : decode cMO_wrap 45 = .ok (.iaload, 1) := by decide +kernel
theorem dMO_wrap_46 : decode cMO_wrap 46 = .ok (.aload_n 0, 1) := by decide +kernel
theorem dMO_wrap_47 : decode cMO_wrap 47 = .ok (.getfield 120, 3) := by decide +kernel
theorem dMO_wrap_50 : decode cMO_wrap 50 = .ok (.iload_n 3, 1) := by decide +kernel
theorem dMO_wrap_51 : decode cMO_wrap 51 = .ok (.invokestatic 126, 3) := by decide +kernel
theorem dMO_wrap_54 : decode cMO_wrap 54 = .ok (.istore 4, 2) := by decide +kernel
theorem dMO_wrap_56 : decode cMO_wrap 56 = .ok (.aload_n 0, 1) := by decide +kernel
theorem dMO_wrap_57 : decode cMO_wrap 57 = .ok (.getfield 53, 3) := by decide +kernel
theorem dMO_wrap_60 : decode cMO_wrap 60 = .ok (.iconst 0, 1) := by decide +kernel
theorem dMO_wrap_61 : decode cMO_wrap 61 = .ok (.iload_n 2, 1) := by decide +kernel
theorem dMO_wrap_62 : decode cMO_wrap 62 = .ok (.iastore, 1) := by decide +kernel
theorem dMO_wrap_63 : decode cMO_wrap 63 = .ok (.aload_n 0, 1) := by decide +kernel
theorem dMO_wrap_64 : decode cMO_wrap 64 = .ok (.getfield 53, 3) := by decide +kernel
theorem dMO_wrap_67 : decode cMO_wrap 67 = .ok (.iconst 1, 1) := by decide +kernel
theorem dMO_wrap_68 : decode cMO_wrap 68 = .ok (.aload_n 0, 1) := by decide +kernel
theorem dMO_wrap_69 : decode cMO_wrap 69 = .ok (.getfield 120, 3) := by decide +kernel
theorem dMO_wrap_72 : decode cMO_wrap 72 = .ok (.bipush 8, 2) := by decide +kernel
theorem dMO_wrap_74 : decode cMO_wrap 74 = .ok (.ishr, 1) := by decide +kernel
theorem dMO_wrap_75 : decode cMO_wrap 75 = .ok (.sipush 255, 3) := by decide +kernel
theorem dMO_wrap_78 : decode cMO_wrap 78 = .ok (.iand, 1) := by decide +kernel
theorem dMO_wrap_79 : decode cMO_wrap 79 = .ok (.iastore, 1) := by decide +kernel
theorem dMO_wrap_80 : decode cMO_wrap 80 = .ok (.aload_n 0, 1) := by decide +kernel
theorem dMO_wrap_81 : decode cMO_wrap 81 = .ok (.getfield 53, 3) := by decide +kernel
theorem dMO_wrap_84 : decode cMO_wrap 84 = .ok (.iconst 2, 1) := by decide +kernel
theorem dMO_wrap_85 : decode cMO_wrap 85 = .ok (.aload_n 0, 1) := by decide +kernel
theorem dMO_wrap_86 : decode cMO_wrap 86 = .ok (.getfield 120, 3) := by decide +kernel
theorem dMO_wrap_89 : decode cMO_wrap 89 = .ok (.sipush 255, 3) := by decide +kernel
theorem dMO_wrap_92 : decode cMO_wrap 92 = .ok (.iand, 1) := by decide +kernel
theorem dMO_wrap_93 : decode cMO_wrap 93 = .ok (.iastore, 1) := by decide +kernel
theorem dMO_wrap_94 : decode cMO_wrap 94 = .ok (.iconst 0, 1) := by decide +kernel
theorem dMO_wrap_95 : decode cMO_wrap 95 = .ok (.istore 5, 2) := by decide +kernel
theorem dMO_wrap_97 : decode cMO_wrap 97 = .ok (.iload 5, 2) := by decide +kernel
theorem dMO_wrap_99 : decode cMO_wrap 99 = .ok (.iconst 4, 1) := by decide +kernel
theorem dMO_wrap_100 : decode cMO_wrap 100 = .ok (.if_icmp .ge 24, 3) := by decide +kernel
theorem dMO_wrap_103 : decode cMO_wrap 103 = .ok (.aload_n 0, 1) := by decide +kernel
theorem dMO_wrap_104 : decode cMO_wrap 104 = .ok (.getfield 53, 3) := by decide +kernel
theorem dMO_wrap_107 : decode cMO_wrap 107 = .ok (.iconst 3, 1) := by decide +kernel
theorem dMO_wrap_108 : decode cMO_wrap 108 = .ok (.iload 5, 2) := by decide +kernel
theorem dMO_wrap_110 : decode cMO_wrap 110 = .ok (.iadd, 1) := by decide +kernel
theorem dMO_wrap_111 : decode cMO_wrap 111 = .ok (.iload_n 3, 1) := by decide +kernel
theorem dMO_wrap_112 : decode cMO_wrap 112 = .ok (.iload 5, 2) := by decide +kernel
theorem dMO_wrap_114 : decode cMO_wrap 114 = .ok (.invokestatic 100, 3) := by decide +kernel
theorem dMO_wrap_117 : decode cMO_wrap 117 = .ok (.iastore, 1) := by decide +kernel
theorem dMO_wrap_118 : decode cMO_wrap 118 = .ok (.iinc 5 1, 3) := by decide +kernel
theorem dMO_wrap_121 : decode cMO_wrap 121 = .ok (.goto (-24), 3) := by decide +kernel
theorem dMO_wrap_124 : decode cMO_wrap 124 = .ok (.aload_n 0, 1) := by decide +kernel
theorem dMO_wrap_125 : decode cMO_wrap 125 = .ok (.getfield 53, 3) := by decide +kernel
theorem dMO_wrap_128 : decode cMO_wrap 128 = .ok (.bipush 7, 2) := by decide +kernel
theorem dMO_wrap_130 : decode cMO_wrap 130 = .ok (.iload 4, 2) := by decide +kernel
theorem dMO_wrap_132 : decode cMO_wrap 132 = .ok (.bipush 8, 2) := by decide +kernel
theorem dMO_wrap_134 : decode cMO_wrap 134 = .ok (.ishr, 1) := by decide +kernel
theorem dMO_wrap_135 : decode cMO_wrap 135 = .ok (.iastore, 1) := by decide +kernel
theorem dMO_wrap_136 : decode cMO_wrap 136 = .ok (.aload_n 0, 1) := by decide +kernel
theorem dMO_wrap_137 : decode cMO_wrap 137 = .ok (.getfield 53, 3) := by decide +kernel
theorem dMO_wrap_140 : decode cMO_wrap 140 = .ok (.bipush 8, 2) := by decide +kernel
theorem dMO_wrap_142 : decode cMO_wrap 142 = .ok (.iload 4, 2) := by decide +kernel
theorem dMO_wrap_144 : decode cMO_wrap 144 = .ok (.sipush 255, 3) := by decide +kernel
theorem dMO_wrap_147 : decode cMO_wrap 147 = .ok (.iand, 1) := by decide +kernel
theorem dMO_wrap_148 : decode cMO_wrap 148 = .ok (.iastore, 1) := by decide +kernel
theorem dMO_wrap_149 : decode cMO_wrap 149 = .ok (.aload_n 0, 1) := by decide +kernel
theorem dMO_wrap_150 : decode cMO_wrap 150 = .ok (.bipush 9, 2) := by decide +kernel
theorem dMO_wrap_152 : decode cMO_wrap 152 = .ok (.putfield 130, 3) := by decide +kernel
theorem dMO_wrap_155 : decode cMO_wrap 155 = .ok (.aload_n 0, 1) := by decide +kernel
theorem dMO_wrap_156 : decode cMO_wrap 156 = .ok (.dup, 1) := by decide +kernel
theorem dMO_wrap_157 : decode cMO_wrap 157 = .ok (.getfield 120, 3) := by decide +kernel
theorem dMO_wrap_160 : decode cMO_wrap 160 = .ok (.iconst 1, 1) := by decide +kernel
theorem dMO_wrap_161 : decode cMO_wrap 161 = .ok (.iadd, 1) := by decide +kernel
theorem dMO_wrap_162 : decode cMO_wrap 162 = .ok (.putfield 120, 3) := by decide +kernel
theorem dMO_wrap_165 : decode cMO_wrap 165 = .ok (.iload_n 2, 1) := by decide +kernel
theorem dMO_wrap_166 : decode cMO_wrap 166 = .ok (.ireturn, 1) := by decide +kernel
theorem dMO_mask_0 : decode cMO_mask 0 = .ok (.iload_n 0, 1) := by decide +kernel
theorem dMO_mask_1 : decode cMO_mask 1 = .ok (.iload_n 1, 1) := by decide +kernel
theorem dMO_mask_2 : decode cMO_mask 2 = .ok (.invokestatic 75, 3) := by decide +kernel
theorem dMO_mask_5 : decode cMO_mask 5 = .ok (.iconst 1, 1) := by decide +kernel
theorem dMO_mask_6 : decode cMO_mask 6 = .ok (.invokestatic 75, 3) := by decide +kernel
theorem dMO_mask_9 : decode cMO_mask 9 = .ok (.ireturn, 1) := by decide +kernel
theorem dMO_mark_0 : decode cMO_mark 0 = .ok (.iload_n 0, 1) := by decide +kernel
theorem dMO_mark_1 : decode cMO_mark 1 = .ok (.iconst 2, 1) := by decide +kernel
theorem dMO_mark_2 : decode cMO_mark 2 = .ok (.invokestatic 75, 3) := by decide +kernel
theorem dMO_mark_5 : decode cMO_mark 5 = .ok (.iload_n 1, 1) := by decide +kernel
theorem dMO_mark_6 : decode cMO_mark 6 = .ok (.invokestatic 75, 3) := by decide +kernel
theorem dMO_mark_9 : decode cMO_mark 9 = .ok (.iload_n 2, 1) := by decide +kernel
theorem dMO_mark_10 : decode cMO_mark 10 = .ok (.invokestatic 75, 3) := by decide +kernel
theorem dMO_mark_13 : decode cMO_mark 13 = .ok (.ldc 119, 2) := by decide +kernel
theorem dMO_mark_15 : decode cMO_mark 15 = .ok (.iand, 1) := by decide +kernel
theorem dMO_mark_16 : decode cMO_mark 16 = .ok (.ireturn, 1) := by decide +kernel
theorem dMO_unwrap_0 : decode cMO_unwrap 0 = .ok (.aload_n 0, 1) := by decide +kernel
theorem dMO_unwrap_1 : decode cMO_unwrap 1 = .ok (.getfield 130, 3) := by decide +kernel
theorem dMO_unwrap_4 : decode cMO_unwrap 4 = .ok (.bipush 9, 2) := by decide +kernel
theorem dMO_unwrap_6 : decode cMO_unwrap 6 = .ok (.if_icmp .eq 7, 3) := by decide +kernel
theorem dMO_unwrap_9 : decode cMO_unwrap 9 = .ok (.ldc2_w 133, 3) := by decide +kernel
theorem dMO_unwrap_12 : decode cMO_unwrap 12 = .ok (.lreturn, 1) := by decide +kernel
theorem dMO_unwrap_13 : decode cMO_unwrap 13 = .ok (.aload_n 0, 1) := by decide +kernel
theorem dMO_unwrap_14 : decode cMO_unwrap 14 = .ok (.getfield 53, 3) := by decide +kernel
theorem dMO_unwrap_17 : decode cMO_unwrap 17 = .ok (.iconst 0, 1) := by decide +kernel
theorem dMO_unwrap_18 : decode cMO_unwrap 18 = .ok (.iaload, 1) := by decide +kernel
theorem dMO_unwrap_19 : decode cMO_unwrap 19 = .ok (.istore_n 1, 1) := by decide +kernel
theorem dMO_unwrap_20 : decode cMO_unwrap 20 = .ok (.aload_n 0, 1) := by decide +kernel
theorem dMO_unwrap_21 : decode cMO_unwrap 21 = .ok (.iload_n 1, 1) := by decide +kernel
theorem dMO_unwrap_22 : decode cMO_unwrap 22 = .ok (.invokevirtual 92, 3) := by decide +kernel
theorem dMO_unwrap_25 : decode cMO_unwrap 25 = .ok (.ifCond .eq 7, 3) := by decide +kernel
theorem dMO_unwrap_28 : decode cMO_unwrap 28 = .ok (.ldc2_w 135, 3) := by decide +kernel
theorem dMO_unwrap_31 : decode cMO_unwrap 31 = .ok (.lreturn, 1) := by decide +kernel
theorem dMO_unwrap_32 : decode cMO_unwrap 32 = .ok (.aload_n 0, 1) := by decide +kernel
theorem dMO_unwrap_33 : decode cMO_unwrap 33 = .ok (.getfield 13, 3) := by decide +kernel
theorem dMO_unwrap_36 : decode cMO_unwrap 36 = .ok (.iload_n 1, 1) := by decide +kernel
theorem dMO_unwrap_37 : decode cMO_unwrap 37 = .ok (.iaload, 1) := by decide +kernel
theorem dMO_unwrap_38 : decode cMO_unwrap 38 = .ok (.iconst 3, 1) := by decide +kernel
theorem dMO_unwrap_39 : decode cMO_unwrap 39 = .ok (.if_icmp .ne 7, 3) := by decide +kernel
theorem dMO_unwrap_42 : decode cMO_unwrap 42 = .ok (.ldc2_w 137, 3) := by decide +kernel
theorem dMO_unwrap_45 : decode cMO_unwrap 45 = .ok (.lreturn, 1) := by decide +kernel
theorem dMO_unwrap_46 : decode cMO_unwrap 46 = .ok (.aload_n 0, 1) := by decide +kernel
theorem dMO_unwrap_47 : decode cMO_unwrap 47 = .ok (.getfield 19, 3) := by decide +kernel
theorem dMO_unwrap_50 : decode cMO_unwrap 50 = .ok (.iload_n 1, 1) := by decide +kernel
theorem dMO_unwrap_51 : decode cMO_unwrap 51 = .ok (.baload, 1) := by decide +kernel
theorem dMO_unwrap_52 : decode cMO_unwrap 52 = .ok (.ifCond .eq 7, 3) := by decide +kernel
theorem dMO_unwrap_55 : decode cMO_unwrap 55 = .ok (.ldc2_w 139, 3) := by decide +kernel
theorem dMO_unwrap_58 : decode cMO_unwrap 58 = .ok (.lreturn, 1) := by decide +kernel
theorem dMO_unwrap_59 : decode cMO_unwrap 59 = .ok (.sipush 256, 3) := by decide +kernel
theorem dMO_unwrap_62 : decode cMO_unwrap 62 = .ok (.aload_n 0, 1) := by decide +kernel
theorem dMO_unwrap_63 : decode cMO_unwrap 63 = .ok (.getfield 53, 3) := by decide +kernel
theorem dMO_unwrap_66 : decode cMO_unwrap 66 = .ok (.iconst 1, 1) := by decide +kernel
theorem dMO_unwrap_67 : decode cMO_unwrap 67 = .ok (.iaload, 1) := by decide +kernel
theorem dMO_unwrap_68 : decode cMO_unwrap 68 = .ok (.imul, 1) := by decide +kernel
theorem dMO_unwrap_69 : decode cMO_unwrap 69 = .ok (.aload_n 0, 1) := by decide +kernel
theorem dMO_unwrap_70 : decode cMO_unwrap 70 = .ok (.getfield 53, 3) := by decide +kernel
theorem dMO_unwrap_73 : decode cMO_unwrap 73 = .ok (.iconst 2, 1) := by decide +kernel
theorem dMO_unwrap_74 : decode cMO_unwrap 74 = .ok (.iaload, 1) := by decide +kernel
theorem dMO_unwrap_75 : decode cMO_unwrap 75 = .ok (.iadd, 1) := by decide +kernel
theorem dMO_unwrap_76 : decode cMO_unwrap 76 = .ok (.istore_n 2, 1) := by decide +kernel
theorem dMO_unwrap_77 : decode cMO_unwrap 77 = .ok (.iconst 0, 1) := by decide +kernel
theorem dMO_unwrap_78 : decode cMO_unwrap 78 = .ok (.istore_n 3, 1) := by decide +kernel
theorem dMO_unwrap_79 : decode cMO_unwrap 79 = .ok (.iconst 3, 1) := by decide +kernel
theorem dMO_unwrap_80 : decode cMO_unwrap 80 = .ok (.istore 4, 2) := by decide +kernel
theorem dMO_unwrap_82 : decode cMO_unwrap 82 = .ok (.iload 4, 2) := by decide +kernel
theorem dMO_unwrap_84 : decode cMO_unwrap 84 = .ok (.bipush 7, 2) := by decide +kernel
theorem dMO_unwrap_86 : decode cMO_unwrap 86 = .ok (.if_icmp .ge 22, 3) := by decide +kernel
theorem dMO_unwrap_89 : decode cMO_unwrap 89 = .ok (.iload_n 3, 1) := by decide +kernel
theorem dMO_unwrap_90 : decode cMO_unwrap 90 = .ok (.bipush 8, 2) := by decide +kernel
theorem dMO_unwrap_92 : decode cMO_unwrap 92 = .ok (.ishl, 1) := by decide +kernel
theorem dMO_unwrap_93 : decode cMO_unwrap 93 = .ok (.aload_n 0, 1) := by decide +kernel
theorem dMO_unwrap_94 : decode cMO_unwrap 94 = .ok (.getfield 53, 3) := by decide +kernel
theorem dMO_unwrap_97 : decode cMO_unwrap 97 = .ok (.iload 4, 2) := by decide +kernel
theorem dMO_unwrap_99 : decode cMO_unwrap 99 = .ok (.iaload, 1) := by decide +kernel
theorem dMO_unwrap_100 : decode cMO_unwrap 100 = .ok (.ior, 1) := by decide +kernel
theorem dMO_unwrap_101 : decode cMO_unwrap 101 = .ok (.istore_n 3, 1) := by decide +kernel
theorem dMO_unwrap_102 : decode cMO_unwrap 102 = .ok (.iinc 4 1, 3) := by decide +kernel
theorem dMO_unwrap_105 : decode cMO_unwrap 105 = .ok (.goto (-23), 3) := by decide +kernel
theorem dMO_unwrap_108 : decode cMO_unwrap 108 = .ok (.sipush 256, 3) := by decide +kernel
theorem dMO_unwrap_111 : decode cMO_unwrap 111 = .ok (.aload_n 0, 1) := by decide +kernel
theorem dMO_unwrap_112 : decode cMO_unwrap 112 = .ok (.getfield 53, 3) := by decide +kernel
theorem dMO_unwrap_115 : decode cMO_unwrap 115 = .ok (.bipush 7, 2) := by decide +kernel
theorem dMO_unwrap_117 : decode cMO_unwrap 117 = .ok (.iaload, 1) := by decide +kernel
theorem dMO_unwrap_118 : decode cMO_unwrap 118 = .ok (.imul, 1) := by decide +kernel
theorem dMO_unwrap_119 : decode cMO_unwrap 119 = .ok (.aload_n 0, 1) := by decide +kernel
theorem dMO_unwrap_120 : decode cMO_unwrap 120 = .ok (.getfield 53, 3) := by decide +kernel
theorem dMO_unwrap_123 : decode cMO_unwrap 123 = .ok (.bipush 8, 2) := by decide +kernel
theorem dMO_unwrap_125 : decode cMO_unwrap 125 = .ok (.iaload, 1) := by decide +kernel
theorem dMO_unwrap_126 : decode cMO_unwrap 126 = .ok (.iadd, 1) := by decide +kernel
theorem dMO_unwrap_127 : decode cMO_unwrap 127 = .ok (.aload_n 0, 1) := by decide +kernel
theorem dMO_unwrap_128 : decode cMO_unwrap 128 = .ok (.getfield 16, 3) := by decide +kernel
theorem dMO_unwrap_131 : decode cMO_unwrap 131 = .ok (.iload_n 1, 1) := by decide +kernel
theorem dMO_unwrap_132 : decode cMO_unwrap 132 = .ok (.iaload, 1) := by decide +kernel
theorem dMO_unwrap_133 : decode cMO_unwrap 133 = .ok (.iload_n 2, 1) := by decide +kernel
theorem dMO_unwrap_134 : decode cMO_unwrap 134 = .ok (.iload_n 3, 1) := by decide +kernel
theorem dMO_unwrap_135 : decode cMO_unwrap 135 = .ok (.invokestatic 126, 3) := by decide +kernel
theorem dMO_unwrap_138 : decode cMO_unwrap 138 = .ok (.if_icmp .eq 7, 3) := by decide +kernel
theorem dMO_unwrap_141 : decode cMO_unwrap 141 = .ok (.ldc2_w 141, 3) := by decide +kernel
theorem dMO_unwrap_144 : decode cMO_unwrap 144 = .ok (.lreturn, 1) := by decide +kernel
theorem dMO_unwrap_145 : decode cMO_unwrap 145 = .ok (.iload_n 3, 1) := by decide +kernel
theorem dMO_unwrap_146 : decode cMO_unwrap 146 = .ok (.aload_n 0, 1) := by decide +kernel
theorem dMO_unwrap_147 : decode cMO_unwrap 147 = .ok (.getfield 16, 3) := by decide +kernel
theorem dMO_unwrap_150 : decode cMO_unwrap 150 = .ok (.iload_n 1, 1) := by decide +kernel
theorem dMO_unwrap_151 : decode cMO_unwrap 151 = .ok (.iaload, 1) := by decide +kernel
theorem dMO_unwrap_152 : decode cMO_unwrap 152 = .ok (.iload_n 2, 1) := by decide +kernel
theorem dMO_unwrap_153 : decode cMO_unwrap 153 = .ok (.invokestatic 123, 3) := by decide +kernel
theorem dMO_unwrap_156 : decode cMO_unwrap 156 = .ok (.ixor, 1) := by decide +kernel
theorem dMO_unwrap_157 : decode cMO_unwrap 157 = .ok (.i2l, 1) := by decide +kernel
theorem dMO_unwrap_158 : decode cMO_unwrap 158 = .ok (.ldc2_w 143, 3) := by decide +kernel
theorem dMO_unwrap_161 : decode cMO_unwrap 161 = .ok (.land, 1) := by decide +kernel
theorem dMO_unwrap_162 : decode cMO_unwrap 162 = .ok (.lreturn, 1) := by decide +kernel
theorem dMO_set_0 : decode cMO_set 0 = .ok (.iload_n 1, 1) := by decide +kernel
theorem dMO_set_1 : decode cMO_set 1 = .ok (.ifCond .lt 28, 3) := by decide +kernel
theorem dMO_set_4 : decode cMO_set 4 = .ok (.iload_n 1, 1) := by decide +kernel
theorem dMO_set_5 : decode cMO_set 5 = .ok (.aload_n 0, 1) := by decide +kernel
theorem dMO_set_6 : decode cMO_set 6 = .ok (.getfield 130, 3) := by decide +kernel
theorem dMO_set_9 : decode cMO_set 9 = .ok (.if_icmp .gt 20, 3) := by decide +kernel
theorem dMO_set_12 : decode cMO_set 12 = .ok (.iload_n 2, 1) := by decide +kernel
theorem dMO_set_13 : decode cMO_set 13 = .ok (.ifCond .lt 16, 3) := by decide +kernel
theorem dMO_set_16 : decode cMO_set 16 = .ok (.iload_n 2, 1) := by decide +kernel
theorem dMO_set_17 : decode cMO_set 17 = .ok (.sipush 255, 3) := by decide +kernel
theorem dMO_set_20 : decode cMO_set 20 = .ok (.if_icmp .gt 9, 3) := by decide +kernel
theorem dMO_set_23 : decode cMO_set 23 = .ok (.iload_n 1, 1) := by decide +kernel
theorem dMO_set_24 : decode cMO_set 24 = .ok (.bipush 16, 2) := by decide +kernel
theorem dMO_set_26 : decode cMO_set 26 = .ok (.if_icmp .ne 5, 3) := by decide +kernel
theorem dMO_set_29 : decode cMO_set 29 = .ok (.iconst 0, 1) := by decide +kernel
theorem dMO_set_30 : decode cMO_set 30 = .ok (.ireturn, 1) := by decide +kernel
theorem dMO_set_31 : decode cMO_set 31 = .ok (.aload_n 0, 1) := by decide +kernel
theorem dMO_set_32 : decode cMO_set 32 = .ok (.getfield 53, 3) := by decide +kernel
theorem dMO_set_35 : decode cMO_set 35 = .ok (.iload_n 1, 1) := by decide +kernel
theorem dMO_set_36 : decode cMO_set 36 = .ok (.iload_n 2, 1) := by decide +kernel
theorem dMO_set_37 : decode cMO_set 37 = .ok (.iastore, 1) := by decide +kernel
theorem dMO_set_38 : decode cMO_set 38 = .ok (.aload_n 0, 1) := by decide +kernel
theorem dMO_set_39 : decode cMO_set 39 = .ok (.iload_n 1, 1) := by decide +kernel
theorem dMO_set_40 : decode cMO_set 40 = .ok (.aload_n 0, 1) := by decide +kernel
theorem dMO_set_41 : decode cMO_set 41 = .ok (.getfield 130, 3) := by decide +kernel
theorem dMO_set_44 : decode cMO_set 44 = .ok (.if_icmp .ne 12, 3) := by decide +kernel
theorem dMO_set_47 : decode cMO_set 47 = .ok (.aload_n 0, 1) := by decide +kernel
theorem dMO_set_48 : decode cMO_set 48 = .ok (.getfield 130, 3) := by decide +kernel
theorem dMO_set_51 : decode cMO_set 51 = .ok (.iconst 1, 1) := by decide +kernel
theorem dMO_set_52 : decode cMO_set 52 = .ok (.iadd, 1) := by decide +kernel
theorem dMO_set_53 : decode cMO_set 53 = .ok (.goto 7, 3) := by decide +kernel
theorem dMO_set_56 : decode cMO_set 56 = .ok (.aload_n 0, 1) := by decide +kernel
theorem dMO_set_57 : decode cMO_set 57 = .ok (.getfield 130, 3) := by decide +kernel
theorem dMO_set_60 : decode cMO_set 60 = .ok (.putfield 130, 3) := by decide +kernel
theorem dMO_set_63 : decode cMO_set 63 = .ok (.iconst 1, 1) := by decide +kernel
theorem dMO_set_64 : decode cMO_set 64 = .ok (.ireturn, 1) := by decide +kernel
theorem dMO_trim_0 : decode cMO_trim 0 = .ok (.iload_n 1, 1) := by decide +kernel
theorem dMO_trim_1 : decode cMO_trim 1 = .ok (.ifCond .lt 11, 3) := by decide +kernel
theorem dMO_trim_4 : decode cMO_trim 4 = .ok (.iload_n 1, 1) := by decide +kernel
theorem dMO_trim_5 : decode cMO_trim 5 = .ok (.aload_n 0, 1) := by decide +kernel
theorem dMO_trim_6 : decode cMO_trim 6 = .ok (.getfield 130, 3) := by decide +kernel
theorem dMO_trim_9 : decode cMO_trim 9 = .ok (.if_icmp .le 5, 3) := by decide +kernel
theorem dMO_trim_12 : decode cMO_trim 12 = .ok (.iconst 0, 1) := by decide +kernel
theorem dMO_trim_13 : decode cMO_trim 13 = .ok (.ireturn, 1) := by decide +kernel
theorem dMO_trim_14 : decode cMO_trim 14 = .ok (.aload_n 0, 1) := by decide +kernel
theorem dMO_trim_15 : decode cMO_trim 15 = .ok (.iload_n 1, 1) := by decide +kernel
theorem dMO_trim_16 : decode cMO_trim 16 = .ok (.putfield 130, 3) := by decide +kernel
theorem dMO_trim_19 : decode cMO_trim 19 = .ok (.iconst 1, 1) := by decide +kernel
theorem dMO_trim_20 : decode cMO_trim 20 = .ok (.ireturn, 1) := by decide +kernel
theorem dMO_byteAt_0 : decode cMO_byteAt 0 = .ok (.iload_n 1, 1) := by decide +kernel
theorem dMO_byteAt_1 : decode cMO_byteAt 1 = .ok (.ifCond .lt 11, 3) := by decide +kernel
theorem dMO_byteAt_4 : decode cMO_byteAt 4 = .ok (.iload_n 1, 1) := by decide +kernel
theorem dMO_byteAt_5 : decode cMO_byteAt 5 = .ok (.aload_n 0, 1) := by decide +kernel
theorem dMO_byteAt_6 : decode cMO_byteAt 6 = .ok (.getfield 130, 3) := by decide +kernel
theorem dMO_byteAt_9 : decode cMO_byteAt 9 = .ok (.if_icmp .lt 7, 3) := by decide +kernel
theorem dMO_byteAt_12 : decode cMO_byteAt 12 = .ok (.iconst (-1), 1) := by decide +kernel
theorem dMO_byteAt_13 : decode cMO_byteAt 13 = .ok (.goto 9, 3) := by decide +kernel
theorem dMO_byteAt_16 : decode cMO_byteAt 16 = .ok (.aload_n 0, 1) := by decide +kernel
theorem dMO_byteAt_17 : decode cMO_byteAt 17 = .ok (.getfield 53, 3) := by decide +kernel
theorem dMO_byteAt_20 : decode cMO_byteAt 20 = .ok (.iload_n 1, 1) := by decide +kernel
theorem dMO_byteAt_21 : decode cMO_byteAt 21 = .ok (.iaload, 1) := by decide +kernel
theorem dMO_byteAt_22 : decode cMO_byteAt 22 = .ok (.ireturn, 1) := by decide +kernel
theorem dMO_length_0 : decode cMO_length 0 = .ok (.aload_n 0, 1) := by decide +kernel
theorem dMO_length_1 : decode cMO_length 1 = .ok (.getfield 130, 3) := by decide +kernel
theorem dMO_length_4 : decode cMO_length 4 = .ok (.ireturn, 1) := by decide +kernel
theorem dMO_version_0 : decode cMO_version 0 = .ok (.aload_n 0, 1) := by decide +kernel
theorem dMO_version_1 : decode cMO_version 1 = .ok (.iload_n 1, 1) := by decide +kernel
theorem dMO_version_2 : decode cMO_version 2 = .ok (.invokevirtual 92, 3) := by decide +kernel
theorem dMO_version_5 : decode cMO_version 5 = .ok (.ifCond .ne 12, 3) := by decide +kernel
theorem dMO_version_8 : decode cMO_version 8 = .ok (.iload_n 2, 1) := by decide +kernel
theorem dMO_version_9 : decode cMO_version 9 = .ok (.ifCond .lt 8, 3) := by decide +kernel
theorem dMO_version_12 : decode cMO_version 12 = .ok (.iload_n 2, 1) := by decide +kernel
theorem dMO_version_13 : decode cMO_version 13 = .ok (.iconst 3, 1) := by decide +kernel
theorem dMO_version_14 : decode cMO_version 14 = .ok (.if_icmp .le 5, 3) := by decide +kernel
theorem dMO_version_17 : decode cMO_version 17 = .ok (.iconst (-1), 1) := by decide +kernel
theorem dMO_version_18 : decode cMO_version 18 = .ok (.ireturn, 1) := by decide +kernel
theorem dMO_version_19 : decode cMO_version 19 = .ok (.iconst 0, 1) := by decide +kernel
theorem dMO_version_20 : decode cMO_version 20 = .ok (.istore_n 3, 1) := by decide +kernel
theorem dMO_version_21 : decode cMO_version 21 = .ok (.iconst 1, 1) := by decide +kernel
theorem dMO_version_22 : decode cMO_version 22 = .ok (.istore 4, 2) := by decide +kernel
theorem dMO_version_24 : decode cMO_version 24 = .ok (.iload 4, 2) := by decide +kernel
theorem dMO_version_26 : decode cMO_version 26 = .ok (.bipush 9, 2) := by decide +kernel
theorem dMO_version_28 : decode cMO_version 28 = .ok (.if_icmp .ge 35, 3) := by decide +kernel
theorem dMO_version_31 : decode cMO_version 31 = .ok (.aload_n 0, 1) := by decide +kernel
theorem dMO_version_32 : decode cMO_version 32 = .ok (.getfield 35, 3) := by decide +kernel
theorem dMO_version_35 : decode cMO_version 35 = .ok (.bipush 9, 2) := by decide +kernel
theorem dMO_version_37 : decode cMO_version 37 = .ok (.iload_n 1, 1) := by decide +kernel
theorem dMO_version_38 : decode cMO_version 38 = .ok (.imul, 1) := by decide +kernel
theorem dMO_version_39 : decode cMO_version 39 = .ok (.iload 4, 2) := by decide +kernel
theorem dMO_version_41 : decode cMO_version 41 = .ok (.iadd, 1) := by decide +kernel
theorem dMO_version_42 : decode cMO_version 42 = .ok (.baload, 1) := by decide +kernel
theorem dMO_version_43 : decode cMO_version 43 = .ok (.ifCond .eq 12, 3) := by decide +kernel
theorem dMO_version_46 : decode cMO_version 46 = .ok (.iload_n 3, 1) := by decide +kernel
theorem dMO_version_47 : decode cMO_version 47 = .ok (.iconst 1, 1) := by decide +kernel
theorem dMO_version_48 : decode cMO_version 48 = .ok (.iload 4, 2) := by decide +kernel
theorem dMO_version_50 : decode cMO_version 50 = .ok (.ishl, 1) := by decide +kernel
theorem dMO_version_51 : decode cMO_version 51 = .ok (.ior, 1) := by decide +kernel
theorem dMO_version_52 : decode cMO_version 52 = .ok (.goto 4, 3) := by decide +kernel
theorem dMO_version_55 : decode cMO_version 55 = .ok (.iload_n 3, 1) := by decide +kernel
theorem dMO_version_56 : decode cMO_version 56 = .ok (.istore_n 3, 1) := by decide +kernel
theorem dMO_version_57 : decode cMO_version 57 = .ok (.iinc 4 1, 3) := by decide +kernel
theorem dMO_version_60 : decode cMO_version 60 = .ok (.goto (-36), 3) := by decide +kernel
theorem dMO_version_63 : decode cMO_version 63 = .ok (.iload_n 2, 1) := by decide +kernel
theorem dMO_version_64 : decode cMO_version 64 = .ok (.ifCond .ne 12, 3) := by decide +kernel
theorem dMO_version_67 : decode cMO_version 67 = .ok (.aload_n 0, 1) := by decide +kernel
theorem dMO_version_68 : decode cMO_version 68 = .ok (.getfield 13, 3) := by decide +kernel
theorem dMO_version_71 : decode cMO_version 71 = .ok (.iload_n 1, 1) := by decide +kernel
theorem dMO_version_72 : decode cMO_version 72 = .ok (.iaload, 1) := by decide +kernel
theorem dMO_version_73 : decode cMO_version 73 = .ok (.goto 50, 3) := by decide +kernel
theorem dMO_version_76 : decode cMO_version 76 = .ok (.iload_n 2, 1) := by decide +kernel
theorem dMO_version_77 : decode cMO_version 77 = .ok (.iconst 1, 1) := by decide +kernel
theorem dMO_version_78 : decode cMO_version 78 = .ok (.if_icmp .ne 20, 3) := by decide +kernel
theorem dMO_version_81 : decode cMO_version 81 = .ok (.aload_n 0, 1) := by decide +kernel
theorem dMO_version_82 : decode cMO_version 82 = .ok (.getfield 19, 3) := by decide +kernel
theorem dMO_version_85 : decode cMO_version 85 = .ok (.iload_n 1, 1) := by decide +kernel
theorem dMO_version_86 : decode cMO_version 86 = .ok (.baload, 1) := by decide +kernel
theorem dMO_version_87 : decode cMO_version 87 = .ok (.ifCond .eq 7, 3) := by decide +kernel
theorem dMO_version_90 : decode cMO_version 90 = .ok (.iconst 1, 1) := by decide +kernel
theorem dMO_version_91 : decode cMO_version 91 = .ok (.goto 32, 3) := by decide +kernel
theorem dMO_version_94 : decode cMO_version 94 = .ok (.iconst 0, 1) := by decide +kernel
theorem dMO_version_95 : decode cMO_version 95 = .ok (.goto 28, 3) := by decide +kernel
theorem dMO_version_98 : decode cMO_version 98 = .ok (.iload_n 2, 1) := by decide +kernel
theorem dMO_version_99 : decode cMO_version 99 = .ok (.iconst 2, 1) := by decide +kernel
theorem dMO_version_100 : decode cMO_version 100 = .ok (.if_icmp .ne 22, 3) := by decide +kernel
theorem dMO_version_103 : decode cMO_version 103 = .ok (.bipush 16, 2) := by decide +kernel
theorem dMO_version_105 : decode cMO_version 105 = .ok (.aload_n 0, 1) := by decide +kernel
theorem dMO_version_106 : decode cMO_version 106 = .ok (.getfield 23, 3) := by decide +kernel
theorem dMO_version_109 : decode cMO_version 109 = .ok (.iload_n 1, 1) := by decide +kernel
theorem dMO_version_110 : decode cMO_version 110 = .ok (.iaload, 1) := by decide +kernel
theorem dMO_version_111 : decode cMO_version 111 = .ok (.imul, 1) := by decide +kernel
theorem dMO_version_112 : decode cMO_version 112 = .ok (.aload_n 0, 1) := by decide +kernel
theorem dMO_version_113 : decode cMO_version 113 = .ok (.getfield 26, 3) := by decide +kernel
theorem dMO_version_116 : decode cMO_version 116 = .ok (.iload_n 1, 1) := by decide +kernel
theorem dMO_version_117 : decode cMO_version 117 = .ok (.iaload, 1) := by decide +kernel
theorem dMO_version_118 : decode cMO_version 118 = .ok (.iadd, 1) := by decide +kernel
theorem dMO_version_119 : decode cMO_version 119 = .ok (.goto 4, 3) := by decide +kernel
theorem dMO_version_122 : decode cMO_version 122 = .ok (.iload_n 3, 1) := by decide +kernel
theorem dMO_version_123 : decode cMO_version 123 = .ok (.ireturn, 1) := by decide +kernel
theorem dMO_versions_0 : decode cMO_versions 0 = .ok (.aload_n 0, 1) := by decide +kernel
theorem dMO_versions_1 : decode cMO_versions 1 = .ok (.getfield 78, 3) := by decide +kernel
theorem dMO_versions_4 : decode cMO_versions 4 = .ok (.ireturn, 1) := by decide +kernel
theorem dMO_log_0 : decode cMO_log 0 = .ok (.iload_n 1, 1) := by decide +kernel
theorem dMO_log_1 : decode cMO_log 1 = .ok (.ifCond .lt 11, 3) := by decide +kernel
theorem dMO_log_4 : decode cMO_log 4 = .ok (.iload_n 1, 1) := by decide +kernel
theorem dMO_log_5 : decode cMO_log 5 = .ok (.aload_n 0, 1) := by decide +kernel
theorem dMO_log_6 : decode cMO_log 6 = .ok (.getfield 72, 3) := by decide +kernel
theorem dMO_log_9 : decode cMO_log 9 = .ok (.if_icmp .lt 5, 3) := by decide +kernel
theorem dMO_log_12 : decode cMO_log 12 = .ok (.iconst 0, 1) := by decide +kernel
theorem dMO_log_13 : decode cMO_log 13 = .ok (.ireturn, 1) := by decide +kernel
theorem dMO_log_14 : decode cMO_log 14 = .ok (.iload_n 2, 1) := by decide +kernel
theorem dMO_log_15 : decode cMO_log 15 = .ok (.ifCond .ne 12, 3) := by decide +kernel
theorem dMO_log_18 : decode cMO_log 18 = .ok (.aload_n 0, 1) := by decide +kernel
theorem dMO_log_19 : decode cMO_log 19 = .ok (.getfield 41, 3) := by decide +kernel
theorem dMO_log_22 : decode cMO_log 22 = .ok (.iload_n 1, 1) := by decide +kernel
theorem dMO_log_23 : decode cMO_log 23 = .ok (.iaload, 1) := by decide +kernel
theorem dMO_log_24 : decode cMO_log 24 = .ok (.goto 46, 3) := by decide +kernel
theorem dMO_log_27 : decode cMO_log 27 = .ok (.iload_n 2, 1) := by decide +kernel
theorem dMO_log_28 : decode cMO_log 28 = .ok (.iconst 1, 1) := by decide +kernel
theorem dMO_log_29 : decode cMO_log 29 = .ok (.if_icmp .ne 12, 3) := by decide +kernel
theorem dMO_log_32 : decode cMO_log 32 = .ok (.aload_n 0, 1) := by decide +kernel
theorem dMO_log_33 : decode cMO_log 33 = .ok (.getfield 44, 3) := by decide +kernel
theorem dMO_log_36 : decode cMO_log 36 = .ok (.iload_n 1, 1) := by decide +kernel
theorem dMO_log_37 : decode cMO_log 37 = .ok (.iaload, 1) := by decide +kernel
theorem dMO_log_38 : decode cMO_log 38 = .ok (.goto 32, 3) := by decide +kernel
theorem dMO_log_41 : decode cMO_log 41 = .ok (.iload_n 2, 1) := by decide +kernel
theorem dMO_log_42 : decode cMO_log 42 = .ok (.iconst 2, 1) := by decide +kernel
theorem dMO_log_43 : decode cMO_log 43 = .ok (.if_icmp .ne 12, 3) := by decide +kernel
theorem dMO_log_46 : decode cMO_log 46 = .ok (.aload_n 0, 1) := by decide +kernel
theorem dMO_log_47 : decode cMO_log 47 = .ok (.getfield 47, 3) := by decide +kernel
theorem dMO_log_50 : decode cMO_log 50 = .ok (.iload_n 1, 1) := by decide +kernel
theorem dMO_log_51 : decode cMO_log 51 = .ok (.iaload, 1) := by decide +kernel
theorem dMO_log_52 : decode cMO_log 52 = .ok (.goto 18, 3) := by decide +kernel
theorem dMO_log_55 : decode cMO_log 55 = .ok (.iload_n 2, 1) := by decide +kernel
theorem dMO_log_56 : decode cMO_log 56 = .ok (.iconst 3, 1) := by decide +kernel
theorem dMO_log_57 : decode cMO_log 57 = .ok (.if_icmp .ne 12, 3) := by decide +kernel
theorem dMO_log_60 : decode cMO_log 60 = .ok (.aload_n 0, 1) := by decide +kernel
theorem dMO_log_61 : decode cMO_log 61 = .ok (.getfield 50, 3) := by decide +kernel
theorem dMO_log_64 : decode cMO_log 64 = .ok (.iload_n 1, 1) := by decide +kernel
theorem dMO_log_65 : decode cMO_log 65 = .ok (.iaload, 1) := by decide +kernel
theorem dMO_log_66 : decode cMO_log 66 = .ok (.goto 4, 3) := by decide +kernel
theorem dMO_log_69 : decode cMO_log 69 = .ok (.iconst 0, 1) := by decide +kernel
theorem dMO_log_70 : decode cMO_log 70 = .ok (.ireturn, 1) := by decide +kernel
theorem dMO_entries_0 : decode cMO_entries 0 = .ok (.aload_n 0, 1) := by decide +kernel
theorem dMO_entries_1 : decode cMO_entries 1 = .ok (.getfield 72, 3) := by decide +kernel
theorem dMO_entries_4 : decode cMO_entries 4 = .ok (.ireturn, 1) := by decide +kernel
