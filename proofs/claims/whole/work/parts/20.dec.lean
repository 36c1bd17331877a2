theorem dCR_init_0 : decode cCR_init 0 = .ok (.aload_n 0, 1) := by decide +kernel
theorem dCR_init_1 : decode cCR_init 1 = .ok (.invokespecial 3, 3) := by decide +kernel
theorem dCR_init_4 : decode cCR_init 4 = .ok (.aload_n 0, 1) := by decide +kernel
theorem dCR_init_5 : decode cCR_init 5 = .ok (.bipush 64, 2) := by decide +kernel
theorem dCR_init_7 : decode cCR_init 7 = .ok (.newarray .int, 2) := by decide +kernel
theorem dCR_init_9 : decode cCR_init 9 = .ok (.putfield 9, 3) := by decide +kernel
theorem dCR_init_12 : decode cCR_init 12 = .ok (.aload_n 0, 1) := by decide +kernel
theorem dCR_init_13 : decode cCR_init 13 = .ok (.iconst 0, 1) := by decide +kernel
theorem dCR_init_14 : decode cCR_init 14 = .ok (.putfield 15, 3) := by decide +kernel
theorem dCR_init_17 : decode cCR_init 17 = .ok (.aload_n 0, 1) := by decide +kernel
theorem dCR_init_18 : decode cCR_init 18 = .ok (.iconst 0, 1) := by decide +kernel
theorem dCR_init_19 : decode cCR_init 19 = .ok (.putfield 19, 3) := by decide +kernel
theorem dCR_init_22 : decode cCR_init 22 = .ok (.return_, 1) := by decide +kernel
theorem dJO_init_0 : decode cJO_init 0 = .ok (.aload_n 0, 1) := by decide +kernel
theorem dJO_init_1 : decode cJO_init 1 = .ok (.invokespecial 3, 3) := by decide +kernel
theorem dJO_init_4 : decode cJO_init 4 = .ok (.aload_n 0, 1) := by decide +kernel
theorem dJO_init_5 : decode cJO_init 5 = .ok (.bipush 80, 2) := by decide +kernel
theorem dJO_init_7 : decode cJO_init 7 = .ok (.newarray .int, 2) := by decide +kernel
theorem dJO_init_9 : decode cJO_init 9 = .ok (.putfield 9, 3) := by decide +kernel
theorem dJO_init_12 : decode cJO_init 12 = .ok (.aload_n 0, 1) := by decide +kernel
theorem dJO_init_13 : decode cJO_init 13 = .ok (.bipush 80, 2) := by decide +kernel
theorem dJO_init_15 : decode cJO_init 15 = .ok (.newarray .int, 2) := by decide +kernel
theorem dJO_init_17 : decode cJO_init 17 = .ok (.putfield 15, 3) := by decide +kernel
theorem dJO_init_20 : decode cJO_init 20 = .ok (.aload_n 0, 1) := by decide +kernel
theorem dJO_init_21 : decode cJO_init 21 = .ok (.bipush 80, 2) := by decide +kernel
theorem dJO_init_23 : decode cJO_init 23 = .ok (.newarray .int, 2) := by decide +kernel
theorem dJO_init_25 : decode cJO_init 25 = .ok (.putfield 18, 3) := by decide +kernel
theorem dJO_init_28 : decode cJO_init 28 = .ok (.aload_n 0, 1) := by decide +kernel
theorem dJO_init_29 : decode cJO_init 29 = .ok (.bipush 80, 2) := by decide +kernel
theorem dJO_init_31 : decode cJO_init 31 = .ok (.newarray .int, 2) := by decide +kernel
theorem dJO_init_33 : decode cJO_init 33 = .ok (.putfield 21, 3) := by decide +kernel
theorem dJO_init_36 : decode cJO_init 36 = .ok (.aload_n 0, 1) := by decide +kernel
theorem dJO_init_37 : decode cJO_init 37 = .ok (.iconst 0, 1) := by decide +kernel
theorem dJO_init_38 : decode cJO_init 38 = .ok (.putfield 24, 3) := by decide +kernel
theorem dJO_init_41 : decode cJO_init 41 = .ok (.return_, 1) := by decide +kernel
theorem dEN_init_0 : decode cEN_init 0 = .ok (.aload_n 0, 1) := by decide +kernel
theorem dEN_init_1 : decode cEN_init 1 = .ok (.invokespecial 3, 3) := by decide +kernel
theorem dEN_init_4 : decode cEN_init 4 = .ok (.aload_n 0, 1) := by decide +kernel
theorem dEN_init_5 : decode cEN_init 5 = .ok (.bipush 16, 2) := by decide +kernel
theorem dEN_init_7 : decode cEN_init 7 = .ok (.newarray .int, 2) := by decide +kernel
theorem dEN_init_9 : decode cEN_init 9 = .ok (.putfield 9, 3) := by decide +kernel
theorem dEN_init_12 : decode cEN_init 12 = .ok (.aload_n 0, 1) := by decide +kernel
theorem dEN_init_13 : decode cEN_init 13 = .ok (.iconst 0, 1) := by decide +kernel
theorem dEN_init_14 : decode cEN_init 14 = .ok (.putfield 15, 3) := by decide +kernel
theorem dEN_init_17 : decode cEN_init 17 = .ok (.return_, 1) := by decide +kernel
theorem dSP_init_0 : decode cSP_init 0 = .ok (.aload_n 0, 1) := by decide +kernel
theorem dSP_init_1 : decode cSP_init 1 = .ok (.invokespecial 3, 3) := by decide +kernel
theorem dSP_init_4 : decode cSP_init 4 = .ok (.aload_n 0, 1) := by decide +kernel
theorem dSP_init_5 : decode cSP_init 5 = .ok (.bipush 9, 2) := by decide +kernel
theorem dSP_init_7 : decode cSP_init 7 = .ok (.newarray .int, 2) := by decide +kernel
theorem dSP_init_9 : decode cSP_init 9 = .ok (.putfield 9, 3) := by decide +kernel
theorem dSP_init_12 : decode cSP_init 12 = .ok (.aload_n 0, 1) := by decide +kernel
theorem dSP_init_13 : decode cSP_init 13 = .ok (.bipush 8, 2) := by decide +kernel
theorem dSP_init_15 : decode cSP_init 15 = .ok (.newarray .int, 2) := by decide +kernel
theorem dSP_init_17 : decode cSP_init 17 = .ok (.putfield 15, 3) := by decide +kernel
theorem dSP_init_20 : decode cSP_init 20 = .ok (.aload_n 0, 1) := by decide +kernel
theorem dSP_init_21 : decode cSP_init 21 = .ok (.iconst 0, 1) := by decide +kernel
theorem dSP_init_22 : decode cSP_init 22 = .ok (.putfield 18, 3) := by decide +kernel
theorem dSP_init_25 : decode cSP_init 25 = .ok (.return_, 1) := by decide +kernel
theorem dCR_putLast_0 : decode cCR_putLast 0 = .ok (.aload_n 0, 1) := by decide +kernel
theorem dCR_putLast_1 : decode cCR_putLast 1 = .ok (.getfield 9, 3) := by decide +kernel
theorem dCR_putLast_4 : decode cCR_putLast 4 = .ok (.aload_n 0, 1) := by decide +kernel
theorem dCR_putLast_5 : decode cCR_putLast 5 = .ok (.getfield 15, 3) := by decide +kernel
theorem dCR_putLast_8 : decode cCR_putLast 8 = .ok (.aload_n 0, 1) := by decide +kernel
theorem dCR_putLast_9 : decode cCR_putLast 9 = .ok (.getfield 19, 3) := by decide +kernel
theorem dCR_putLast_12 : decode cCR_putLast 12 = .ok (.iadd, 1) := by decide +kernel
theorem dCR_putLast_13 : decode cCR_putLast 13 = .ok (.bipush 63, 2) := by decide +kernel
theorem dCR_putLast_15 : decode cCR_putLast 15 = .ok (.iand, 1) := by decide +kernel
theorem dCR_putLast_16 : decode cCR_putLast 16 = .ok (.iload_n 1, 1) := by decide +kernel
theorem dCR_putLast_17 : decode cCR_putLast 17 = .ok (.iastore, 1) := by decide +kernel
theorem dCR_putLast_18 : decode cCR_putLast 18 = .ok (.aload_n 0, 1) := by decide +kernel
theorem dCR_putLast_19 : decode cCR_putLast 19 = .ok (.dup, 1) := by decide +kernel
theorem dCR_putLast_20 : decode cCR_putLast 20 = .ok (.getfield 19, 3) := by decide +kernel
theorem dCR_putLast_23 : decode cCR_putLast 23 = .ok (.iconst 1, 1) := by decide +kernel
theorem dCR_putLast_24 : decode cCR_putLast 24 = .ok (.iadd, 1) := by decide +kernel
theorem dCR_putLast_25 : decode cCR_putLast 25 = .ok (.putfield 19, 3) := by decide +kernel
theorem dCR_putLast_28 : decode cCR_putLast 28 = .ok (.return_, 1) := by decide +kernel
theorem dFI_product_0 : decode cFI_product 0 = .ok (.iconst 0, 1) := by decide +kernel
theorem dFI_product_1 : decode cFI_product 1 = .ok (.istore_n 2, 1) := by decide +kernel
theorem dFI_product_2 : decode cFI_product 2 = .ok (.iload_n 0, 1) := by decide +kernel
theorem dFI_product_3 : decode cFI_product 3 = .ok (.istore_n 3, 1) := by decide +kernel
theorem dFI_product_4 : decode cFI_product 4 = .ok (.iconst 0, 1) := by decide +kernel
theorem dFI_product_5 : decode cFI_product 5 = .ok (.istore 4, 2) := by decide +kernel
theorem dFI_product_7 : decode cFI_product 7 = .ok (.iload 4, 2) := by decide +kernel
theorem dFI_product_9 : decode cFI_product 9 = .ok (.bipush 8, 2) := by decide +kernel
theorem dFI_product_11 : decode cFI_product 11 = .ok (.if_icmp .ge 39, 3) := by decide +kernel
theorem dFI_product_14 : decode cFI_product 14 = .ok (.iload_n 1, 1) := by decide +kernel
theorem dFI_product_15 : decode cFI_product 15 = .ok (.iload 4, 2) := by decide +kernel
theorem dFI_product_17 : decode cFI_product 17 = .ok (.ishr, 1) := by decide +kernel
theorem dFI_product_18 : decode cFI_product 18 = .ok (.iconst 1, 1) := by decide +kernel
theorem dFI_product_19 : decode cFI_product 19 = .ok (.iand, 1) := by decide +kernel
theorem dFI_product_20 : decode cFI_product 20 = .ok (.ifCond .eq 7, 3) := by decide +kernel
theorem dFI_product_23 : decode cFI_product 23 = .ok (.iload_n 2, 1) := by decide +kernel
theorem dFI_product_24 : decode cFI_product 24 = .ok (.iload_n 3, 1) := by decide +kernel
theorem dFI_product_25 : decode cFI_product 25 = .ok (.ixor, 1) := by decide +kernel
theorem dFI_product_26 : decode cFI_product 26 = .ok (.istore_n 2, 1) := by decide +kernel
theorem dFI_product_27 : decode cFI_product 27 = .ok (.iload_n 3, 1) := by decide +kernel
theorem dFI_product_28 : decode cFI_product 28 = .ok (.iconst 1, 1) := by decide +kernel
theorem dFI_product_29 : decode cFI_product 29 = .ok (.ishl, 1) := by decide +kernel
theorem dFI_product_30 : decode cFI_product 30 = .ok (.istore_n 3, 1) := by decide +kernel
theorem dFI_product_31 : decode cFI_product 31 = .ok (.iload_n 3, 1) := by decide +kernel
theorem dFI_product_32 : decode cFI_product 32 = .ok (.sipush 255, 3) := by decide +kernel
theorem dFI_product_35 : decode cFI_product 35 = .ok (.if_icmp .le 9, 3) := by decide +kernel
theorem dFI_product_38 : decode cFI_product 38 = .ok (.iload_n 3, 1) := by decide +kernel
theorem dFI_product_39 : decode cFI_product 39 = .ok (.sipush 283, 3) := by decide +kernel
theorem dFI_product_42 : decode cFI_product 42 = .ok (.ixor, 1) := by decide +kernel
theorem dFI_product_43 : decode cFI_product 43 = .ok (.istore_n 3, 1) := by decide +kernel
theorem dFI_product_44 : decode cFI_product 44 = .ok (.iinc 4 1, 3) := by decide +kernel
theorem dFI_product_47 : decode cFI_product 47 = .ok (.goto (-40), 3) := by decide +kernel
theorem dFI_product_50 : decode cFI_product 50 = .ok (.iload_n 2, 1) := by decide +kernel
theorem dFI_product_51 : decode cFI_product 51 = .ok (.ireturn, 1) := by decide +kernel
theorem dJO_hasRoomFor_0 : decode cJO_hasRoomFor 0 = .ok (.aload_n 0, 1) := by decide +kernel
theorem dJO_hasRoomFor_1 : decode cJO_hasRoomFor 1 = .ok (.getfield 24, 3) := by decide +kernel
theorem dJO_hasRoomFor_4 : decode cJO_hasRoomFor 4 = .ok (.iload_n 1, 1) := by decide +kernel
theorem dJO_hasRoomFor_5 : decode cJO_hasRoomFor 5 = .ok (.iadd, 1) := by decide +kernel
theorem dJO_hasRoomFor_6 : decode cJO_hasRoomFor 6 = .ok (.bipush 80, 2) := by decide +kernel
theorem dJO_hasRoomFor_8 : decode cJO_hasRoomFor 8 = .ok (.if_icmp .gt 7, 3) := by decide +kernel
theorem dJO_hasRoomFor_11 : decode cJO_hasRoomFor 11 = .ok (.iconst 1, 1) := by decide +kernel
theorem dJO_hasRoomFor_12 : decode cJO_hasRoomFor 12 = .ok (.goto 4, 3) := by decide +kernel
theorem dJO_hasRoomFor_15 : decode cJO_hasRoomFor 15 = .ok (.iconst 0, 1) := by decide +kernel
theorem dJO_hasRoomFor_16 : decode cJO_hasRoomFor 16 = .ok (.ireturn, 1) := by decide +kernel
theorem dCR_takeInt_0 : decode cCR_takeInt 0 = .ok (.iconst 0, 1) := by decide +kernel
theorem dCR_takeInt_1 : decode cCR_takeInt 1 = .ok (.istore_n 1, 1) := by decide +kernel
theorem dCR_takeInt_2 : decode cCR_takeInt 2 = .ok (.iconst 0, 1) := by decide +kernel
theorem dCR_takeInt_3 : decode cCR_takeInt 3 = .ok (.istore_n 2, 1) := by decide +kernel
theorem dCR_takeInt_4 : decode cCR_takeInt 4 = .ok (.iload_n 2, 1) := by decide +kernel
theorem dCR_takeInt_5 : decode cCR_takeInt 5 = .ok (.iconst 4, 1) := by decide +kernel
theorem dCR_takeInt_6 : decode cCR_takeInt 6 = .ok (.if_icmp .ge 19, 3) := by decide +kernel
theorem dCR_takeInt_9 : decode cCR_takeInt 9 = .ok (.iload_n 1, 1) := by decide +kernel
theorem dCR_takeInt_10 : decode cCR_takeInt 10 = .ok (.bipush 8, 2) := by decide +kernel
theorem dCR_takeInt_12 : decode cCR_takeInt 12 = .ok (.ishl, 1) := by decide +kernel
theorem dCR_takeInt_13 : decode cCR_takeInt 13 = .ok (.aload_n 0, 1) := by decide +kernel
theorem dCR_takeInt_14 : decode cCR_takeInt 14 = .ok (.invokevirtual 22, 3) := by decide +kernel
theorem dCR_takeInt_17 : decode cCR_takeInt 17 = .ok (.ior, 1) := by decide +kernel
theorem dCR_takeInt_18 : decode cCR_takeInt 18 = .ok (.istore_n 1, 1) := by decide +kernel
theorem dCR_takeInt_19 : decode cCR_takeInt 19 = .ok (.iinc 2 1, 3) := by decide +kernel
theorem dCR_takeInt_22 : decode cCR_takeInt 22 = .ok (.goto (-18), 3) := by decide +kernel
theorem dCR_takeInt_25 : decode cCR_takeInt 25 = .ok (.iload_n 1, 1) := by decide +kernel
theorem dCR_takeInt_26 : decode cCR_takeInt 26 = .ok (.ireturn, 1) := by decide +kernel
theorem dCR_take_0 : decode cCR_take 0 = .ok (.aload_n 0, 1) := by decide +kernel
theorem dCR_take_1 : decode cCR_take 1 = .ok (.getfield 9, 3) := by decide +kernel
theorem dCR_take_4 : decode cCR_take 4 = .ok (.aload_n 0, 1) := by decide +kernel
theorem dCR_take_5 : decode cCR_take 5 = .ok (.getfield 15, 3) := by decide +kernel
theorem dCR_take_8 : decode cCR_take 8 = .ok (.iaload, 1) := by decide +kernel
theorem dCR_take_9 : decode cCR_take 9 = .ok (.istore_n 1, 1) := by decide +kernel
theorem dCR_take_10 : decode cCR_take 10 = .ok (.aload_n 0, 1) := by decide +kernel
theorem dCR_take_11 : decode cCR_take 11 = .ok (.getfield 9, 3) := by decide +kernel
theorem dCR_take_14 : decode cCR_take 14 = .ok (.aload_n 0, 1) := by decide +kernel
theorem dCR_take_15 : decode cCR_take 15 = .ok (.getfield 15, 3) := by decide +kernel
theorem dCR_take_18 : decode cCR_take 18 = .ok (.iconst 0, 1) := by decide +kernel
theorem dCR_take_19 : decode cCR_take 19 = .ok (.iastore, 1) := by decide +kernel
theorem dCR_take_20 : decode cCR_take 20 = .ok (.aload_n 0, 1) := by decide +kernel
theorem dCR_take_21 : decode cCR_take 21 = .ok (.aload_n 0, 1) := by decide +kernel
theorem dCR_take_22 : decode cCR_take 22 = .ok (.getfield 15, 3) := by decide +kernel
theorem dCR_take_25 : decode cCR_take 25 = .ok (.iconst 1, 1) := by decide +kernel
theorem dCR_take_26 : decode cCR_take 26 = .ok (.iadd, 1) := by decide +kernel
theorem dCR_take_27 : decode cCR_take 27 = .ok (.bipush 63, 2) := by decide +kernel
theorem dCR_take_29 : decode cCR_take 29 = .ok (.iand, 1) := by decide +kernel
theorem dCR_take_30 : decode cCR_take 30 = .ok (.putfield 15, 3) := by decide +kernel
theorem dCR_take_33 : decode cCR_take 33 = .ok (.aload_n 0, 1) := by decide +kernel
theorem dCR_take_34 : decode cCR_take 34 = .ok (.dup, 1) := by decide +kernel
theorem dCR_take_35 : decode cCR_take 35 = .ok (.getfield 19, 3) := by decide +kernel
theorem dCR_take_38 : decode cCR_take 38 = .ok (.iconst 1, 1) := by decide +kernel
theorem dCR_take_39 : decode cCR_take 39 = .ok (.isub, 1) := by decide +kernel
theorem dCR_take_40 : decode cCR_take 40 = .ok (.putfield 19, 3) := by decide +kernel
theorem dCR_take_43 : decode cCR_take 43 = .ok (.iload_n 1, 1) := by decide +kernel
theorem dCR_take_44 : decode cCR_take 44 = .ok (.ireturn, 1) := by decide +kernel
theorem dVE_init_0 : decode cVE_init 0 = .ok (.aload_n 0, 1) := by decide +kernel
theorem dVE_init_1 : decode cVE_init 1 = .ok (.invokespecial 3, 3) := by decide +kernel
theorem dVE_init_4 : decode cVE_init 4 = .ok (.aload_n 0, 1) := by decide +kernel
theorem dVE_init_5 : decode cVE_init 5 = .ok (.bipush 9, 2) := by decide +kernel
theorem dVE_init_7 : decode cVE_init 7 = .ok (.newarray .int, 2) := by decide +kernel
theorem dVE_init_9 : decode cVE_init 9 = .ok (.putfield 9, 3) := by decide +kernel
theorem dVE_init_12 : decode cVE_init 12 = .ok (.aload_n 0, 1) := by decide +kernel
theorem dVE_init_13 : decode cVE_init 13 = .ok (.bipush 9, 2) := by decide +kernel
theorem dVE_init_15 : decode cVE_init 15 = .ok (.newarray .int, 2) := by decide +kernel
theorem dVE_init_17 : decode cVE_init 17 = .ok (.putfield 15, 3) := by decide +kernel
theorem dVE_init_20 : decode cVE_init 20 = .ok (.aload_n 0, 1) := by decide +kernel
theorem dVE_init_21 : decode cVE_init 21 = .ok (.iconst 1, 1) := by decide +kernel
theorem dVE_init_22 : decode cVE_init 22 = .ok (.putfield 18, 3) := by decide +kernel
theorem dVE_init_25 : decode cVE_init 25 = .ok (.aload_n 0, 1) := by decide +kernel
theorem dVE_init_26 : decode cVE_init 26 = .ok (.iconst 0, 1) := by decide +kernel
theorem dVE_init_27 : decode cVE_init 27 = .ok (.putfield 22, 3) := by decide +kernel
theorem dVE_init_30 : decode cVE_init 30 = .ok (.aload_n 0, 1) := by decide +kernel
theorem dVE_init_31 : decode cVE_init 31 = .ok (.iconst 0, 1) := by decide +kernel
theorem dVE_init_32 : decode cVE_init 32 = .ok (.putfield 26, 3) := by decide +kernel
theorem dVE_init_35 : decode cVE_init 35 = .ok (.aload_n 0, 1) := by decide +kernel
theorem dVE_init_36 : decode cVE_init 36 = .ok (.iconst 0, 1) := by decide +kernel
theorem dVE_init_37 : decode cVE_init 37 = .ok (.putfield 29, 3) := by decide +kernel
theorem dVE_init_40 : decode cVE_init 40 = .ok (.aload_n 0, 1) := by decide +kernel
theorem dVE_init_41 : decode cVE_init 41 = .ok (.iconst 0, 1) := by decide +kernel
theorem dVE_init_42 : decode cVE_init 42 = .ok (.putfield 32, 3) := by decide +kernel
theorem dVE_init_45 : decode cVE_init 45 = .ok (.aload_n 0, 1) := by decide +kernel
theorem dVE_init_46 : decode cVE_init 46 = .ok (.iconst 0, 1) := by decide +kernel
theorem dVE_init_47 : decode cVE_init 47 = .ok (.putfield 35, 3) := by decide +kernel
theorem dVE_init_50 : decode cVE_init 50 = .ok (.aload_n 0, 1) := by decide +kernel
theorem dVE_init_51 : decode cVE_init 51 = .ok (.iload_n 1, 1) := by decide +kernel
theorem dVE_init_52 : decode cVE_init 52 = .ok (.putfield 38, 3) := by decide +kernel
theorem dVE_init_55 : decode cVE_init 55 = .ok (.aload_n 0, 1) := by decide +kernel
theorem dVE_init_56 : decode cVE_init 56 = .ok (.iload_n 2, 1) := by decide +kernel
theorem dVE_init_57 : decode cVE_init 57 = .ok (.putfield 41, 3) := by decide +kernel
theorem dVE_init_60 : decode cVE_init 60 = .ok (.return_, 1) := by decide +kernel
theorem dJO_write_0 : decode cJO_write 0 = .ok (.aload_n 0, 1) := by decide +kernel
theorem dJO_write_1 : decode cJO_write 1 = .ok (.getfield 24, 3) := by decide +kernel
theorem dJO_write_4 : decode cJO_write 4 = .ok (.ifCond .ne 8, 3) := by decide +kernel
theorem dJO_write_7 : decode cJO_write 7 = .ok (.bipush 7, 2) := by decide +kernel
theorem dJO_write_9 : decode cJO_write 9 = .ok (.goto 14, 3) := by decide +kernel
theorem dJO_write_12 : decode cJO_write 12 = .ok (.aload_n 0, 1) := by decide +kernel
theorem dJO_write_13 : decode cJO_write 13 = .ok (.getfield 21, 3) := by decide +kernel
theorem dJO_write_16 : decode cJO_write 16 = .ok (.aload_n 0, 1) := by decide +kernel
theorem dJO_write_17 : decode cJO_write 17 = .ok (.getfield 24, 3) := by decide +kernel
theorem dJO_write_20 : decode cJO_write 20 = .ok (.iconst 1, 1) := by decide +kernel
theorem dJO_write_21 : decode cJO_write 21 = .ok (.isub, 1) := by decide +kernel
theorem dJO_write_22 : decode cJO_write 22 = .ok (.iaload, 1) := by decide +kernel
theorem dJO_write_23 : decode cJO_write 23 = .ok (.istore 4, 2) := by decide +kernel
theorem dJO_write_25 : decode cJO_write 25 = .ok (.aload_n 0, 1) := by decide +kernel
theorem dJO_write_26 : decode cJO_write 26 = .ok (.getfield 9, 3) := by decide +kernel
theorem dJO_write_29 : decode cJO_write 29 = .ok (.aload_n 0, 1) := by decide +kernel
theorem dJO_write_30 : decode cJO_write 30 = .ok (.getfield 24, 3) := by decide +kernel
theorem dJO_write_33 : decode cJO_write 33 = .ok (.iload_n 1, 1) := by decide +kernel
theorem dJO_write_34 : decode cJO_write 34 = .ok (.iastore, 1) := by decide +kernel
theorem dJO_write_35 : decode cJO_write 35 = .ok (.aload_n 0, 1) := by decide +kernel
theorem dJO_write_36 : decode cJO_write 36 = .ok (.getfield 15, 3) := by decide +kernel
theorem dJO_write_39 : decode cJO_write 39 = .ok (.aload_n 0, 1) := by decide +kernel
theorem dJO_write_40 : decode cJO_write 40 = .ok (.getfield 24, 3) := by decide +kernel
theorem dJO_write_43 : decode cJO_write 43 = .ok (.iload_n 2, 1) := by decide +kernel
theorem dJO_write_44 : decode cJO_write 44 = .ok (.iastore, 1) := by decide +kernel
theorem dJO_write_45 : decode cJO_write 45 = .ok (.aload_n 0, 1) := by decide +kernel
theorem dJO_write_46 : decode cJO_write 46 = .ok (.getfield 18, 3) := by decide +kernel
theorem dJO_write_49 : decode cJO_write 49 = .ok (.aload_n 0, 1) := by decide +kernel
theorem dJO_write_50 : decode cJO_write 50 = .ok (.getfield 24, 3) := by decide +kernel
theorem dJO_write_53 : decode cJO_write 53 = .ok (.iload_n 3, 1) := by decide +kernel
theorem dJO_write_54 : decode cJO_write 54 = .ok (.iastore, 1) := by decide +kernel
theorem dJO_write_55 : decode cJO_write 55 = .ok (.aload_n 0, 1) := by decide +kernel
theorem dJO_write_56 : decode cJO_write 56 = .ok (.getfield 21, 3) := by decide +kernel
theorem dJO_write_59 : decode cJO_write 59 = .ok (.aload_n 0, 1) := by decide +kernel
theorem dJO_write_60 : decode cJO_write 60 = .ok (.getfield 24, 3) := by decide +kernel
theorem dJO_write_63 : decode cJO_write 63 = .ok (.iload 4, 2) := by decide +kernel
theorem dJO_write_65 : decode cJO_write 65 = .ok (.iload_n 1, 1) := by decide +kernel
theorem dJO_write_66 : decode cJO_write 66 = .ok (.invokestatic 28, 3) := by decide +kernel
theorem dJO_write_69 : decode cJO_write 69 = .ok (.iload_n 2, 1) := by decide +kernel
theorem dJO_write_70 : decode cJO_write 70 = .ok (.invokestatic 28, 3) := by decide +kernel
theorem dJO_write_73 : decode cJO_write 73 = .ok (.iload_n 3, 1) := by decide +kernel
theorem dJO_write_74 : decode cJO_write 74 = .ok (.invokestatic 28, 3) := by decide +kernel
theorem dJO_write_77 : decode cJO_write 77 = .ok (.iastore, 1) := by decide +kernel
theorem dJO_write_78 : decode cJO_write 78 = .ok (.aload_n 0, 1) := by decide +kernel
theorem dJO_write_79 : decode cJO_write 79 = .ok (.dup, 1) := by decide +kernel
theorem dJO_write_80 : decode cJO_write 80 = .ok (.getfield 24, 3) := by decide +kernel
theorem dJO_write_83 : decode cJO_write 83 = .ok (.iconst 1, 1) := by decide +kernel
theorem dJO_write_84 : decode cJO_write 84 = .ok (.iadd, 1) := by decide +kernel
theorem dJO_write_85 : decode cJO_write 85 = .ok (.putfield 24, 3) := by decide +kernel
theorem dJO_write_88 : decode cJO_write 88 = .ok (.return_, 1) := by decide +kernel
theorem dVE_forgetAll_0 : decode cVE_forgetAll 0 = .ok (.aload_n 0, 1) := by decide +kernel
theorem dVE_forgetAll_1 : decode cVE_forgetAll 1 = .ok (.iconst 3, 1) := by decide +kernel
theorem dVE_forgetAll_2 : decode cVE_forgetAll 2 = .ok (.putfield 18, 3) := by decide +kernel
theorem dVE_forgetAll_5 : decode cVE_forgetAll 5 = .ok (.aload_n 0, 1) := by decide +kernel
theorem dVE_forgetAll_6 : decode cVE_forgetAll 6 = .ok (.iconst 0, 1) := by decide +kernel
theorem dVE_forgetAll_7 : decode cVE_forgetAll 7 = .ok (.putfield 41, 3) := by decide +kernel
theorem dVE_forgetAll_10 : decode cVE_forgetAll 10 = .ok (.aload_n 0, 1) := by decide +kernel
theorem dVE_forgetAll_11 : decode cVE_forgetAll 11 = .ok (.iconst 0, 1) := by decide +kernel
theorem dVE_forgetAll_12 : decode cVE_forgetAll 12 = .ok (.putfield 22, 3) := by decide +kernel
theorem dVE_forgetAll_15 : decode cVE_forgetAll 15 = .ok (.aload_n 0, 1) := by decide +kernel
theorem dVE_forgetAll_16 : decode cVE_forgetAll 16 = .ok (.iconst 0, 1) := by decide +kernel
theorem dVE_forgetAll_17 : decode cVE_forgetAll 17 = .ok (.putfield 26, 3) := by decide +kernel
theorem dVE_forgetAll_20 : decode cVE_forgetAll 20 = .ok (.aload_n 0, 1) := by decide +kernel
theorem dVE_forgetAll_21 : decode cVE_forgetAll 21 = .ok (.iconst 0, 1) := by decide +kernel
theorem dVE_forgetAll_22 : decode cVE_forgetAll 22 = .ok (.putfield 29, 3) := by decide +kernel
theorem dVE_forgetAll_25 : decode cVE_forgetAll 25 = .ok (.aload_n 0, 1) := by decide +kernel
theorem dVE_forgetAll_26 : decode cVE_forgetAll 26 = .ok (.getfield 9, 3) := by decide +kernel
theorem dVE_forgetAll_29 : decode cVE_forgetAll 29 = .ok (.iconst 0, 1) := by decide +kernel
theorem dVE_forgetAll_30 : decode cVE_forgetAll 30 = .ok (.invokestatic 44, 3) := by decide +kernel
theorem dVE_forgetAll_33 : decode cVE_forgetAll 33 = .ok (.aload_n 0, 1) := by decide +kernel
theorem dVE_forgetAll_34 : decode cVE_forgetAll 34 = .ok (.invokevirtual 59, 3) := by decide +kernel
theorem dVE_forgetAll_37 : decode cVE_forgetAll 37 = .ok (.return_, 1) := by decide +kernel
theorem dAR_fill_0 : decode cAR_fill 0 = .ok (.iconst 0, 1) := by decide +kernel
theorem dAR_fill_1 : decode cAR_fill 1 = .ok (.istore_n 2, 1) := by decide +kernel
theorem dAR_fill_2 : decode cAR_fill 2 = .ok (.aload_n 0, 1) := by decide +kernel
theorem dAR_fill_3 : decode cAR_fill 3 = .ok (.arraylength, 1) := by decide +kernel
theorem dAR_fill_4 : decode cAR_fill 4 = .ok (.istore_n 3, 1) := by decide +kernel
theorem dAR_fill_5 : decode cAR_fill 5 = .ok (.iload_n 2, 1) := by decide +kernel
theorem dAR_fill_6 : decode cAR_fill 6 = .ok (.iload_n 3, 1) := by decide +kernel
theorem dAR_fill_7 : decode cAR_fill 7 = .ok (.if_icmp .ge 13, 3) := by decide +kernel
theorem dAR_fill_10 : decode cAR_fill 10 = .ok (.aload_n 0, 1) := by decide +kernel
theorem dAR_fill_11 : decode cAR_fill 11 = .ok (.iload_n 2, 1) := by decide +kernel
theorem dAR_fill_12 : decode cAR_fill 12 = .ok (.iload_n 1, 1) := by decide +kernel
theorem dAR_fill_13 : decode cAR_fill 13 = .ok (.iastore, 1) := by decide +kernel
theorem dAR_fill_14 : decode cAR_fill 14 = .ok (.iinc 2 1, 3) := by decide +kernel
theorem dAR_fill_17 : decode cAR_fill 17 = .ok (.goto (-12), 3) := by decide +kernel
theorem dAR_fill_20 : decode cAR_fill 20 = .ok (.return_, 1) := by decide +kernel
theorem dVE_forgetGiven_0 : decode cVE_forgetGiven 0 = .ok (.aload_n 0, 1) := by decide +kernel
theorem dVE_forgetGiven_1 : decode cVE_forgetGiven 1 = .ok (.iconst 0, 1) := by decide +kernel
theorem dVE_forgetGiven_2 : decode cVE_forgetGiven 2 = .ok (.putfield 32, 3) := by decide +kernel
theorem dVE_forgetGiven_5 : decode cVE_forgetGiven 5 = .ok (.aload_n 0, 1) := by decide +kernel
theorem dVE_forgetGiven_6 : decode cVE_forgetGiven 6 = .ok (.iconst 0, 1) := by decide +kernel
theorem dVE_forgetGiven_7 : decode cVE_forgetGiven 7 = .ok (.putfield 35, 3) := by decide +kernel
theorem dVE_forgetGiven_10 : decode cVE_forgetGiven 10 = .ok (.aload_n 0, 1) := by decide +kernel
theorem dVE_forgetGiven_11 : decode cVE_forgetGiven 11 = .ok (.getfield 15, 3) := by decide +kernel
theorem dVE_forgetGiven_14 : decode cVE_forgetGiven 14 = .ok (.iconst 0, 1) := by decide +kernel
theorem dVE_forgetGiven_15 : decode cVE_forgetGiven 15 = .ok (.invokestatic 44, 3) := by decide +kernel
theorem dVE_forgetGiven_18 : decode cVE_forgetGiven 18 = .ok (.return_, 1) := by decide +kernel
theorem dSP_make_0 : decode cSP_make 0 = .ok (.aload_n 0, 1) := by decide +kernel
theorem dSP_make_1 : decode cSP_make 1 = .ok (.getfield 9, 3) := by decide +kernel
theorem dSP_make_4 : decode cSP_make 4 = .ok (.iconst 0, 1) := by decide +kernel
theorem dSP_make_5 : decode cSP_make 5 = .ok (.invokestatic 22, 3) := by decide +kernel
theorem dSP_make_8 : decode cSP_make 8 = .ok (.aload_n 0, 1) := by decide +kernel
theorem dSP_make_9 : decode cSP_make 9 = .ok (.iload_n 3, 1) := by decide +kernel
theorem dSP_make_10 : decode cSP_make 10 = .ok (.putfield 18, 3) := by decide +kernel
theorem dSP_make_13 : decode cSP_make 13 = .ok (.iconst 3, 1) := by decide +kernel
theorem dSP_make_14 : decode cSP_make 14 = .ok (.istore 5, 2) := by decide +kernel
theorem dSP_make_16 : decode cSP_make 16 = .ok (.iload 5, 2) := by decide +kernel
theorem dSP_make_18 : decode cSP_make 18 = .ok (.ifCond .lt 93, 3) := by decide +kernel
theorem dSP_make_21 : decode cSP_make 21 = .ok (.aload_n 0, 1) := by decide +kernel
theorem dSP_make_22 : decode cSP_make 22 = .ok (.getfield 15, 3) := by decide +kernel
theorem dSP_make_25 : decode cSP_make 25 = .ok (.iconst 0, 1) := by decide +kernel
theorem dSP_make_26 : decode cSP_make 26 = .ok (.iload_n 1, 1) := by decide +kernel
theorem dSP_make_27 : decode cSP_make 27 = .ok (.bipush 8, 2) := by decide +kernel
theorem dSP_make_29 : decode cSP_make 29 = .ok (.iload 5, 2) := by decide +kernel
theorem dSP_make_31 : decode cSP_make 31 = .ok (.imul, 1) := by decide +kernel
theorem dSP_make_32 : decode cSP_make 32 = .ok (.iushr, 1) := by decide +kernel
theorem dSP_make_33 : decode cSP_make 33 = .ok (.sipush 255, 3) := by decide +kernel
theorem dSP_make_36 : decode cSP_make 36 = .ok (.iand, 1) := by decide +kernel
theorem dSP_make_37 : decode cSP_make 37 = .ok (.iastore, 1) := by decide +kernel
theorem dSP_make_38 : decode cSP_make 38 = .ok (.iconst 1, 1) := by decide +kernel
theorem dSP_make_39 : decode cSP_make 39 = .ok (.istore 6, 2) := by decide +kernel
theorem dSP_make_41 : decode cSP_make 41 = .ok (.iload 6, 2) := by decide +kernel
theorem dSP_make_43 : decode cSP_make 43 = .ok (.iload_n 2, 1) := by decide +kernel
theorem dSP_make_44 : decode cSP_make 44 = .ok (.if_icmp .ge 21, 3) := by decide +kernel
theorem dSP_make_47 : decode cSP_make 47 = .ok (.aload_n 0, 1) := by decide +kernel
theorem dSP_make_48 : decode cSP_make 48 = .ok (.getfield 15, 3) := by decide +kernel
theorem dSP_make_51 : decode cSP_make 51 = .ok (.iload 6, 2) := by decide +kernel
theorem dSP_make_53 : decode cSP_make 53 = .ok (.aload 4, 2) := by decide +kernel
theorem dSP_make_55 : decode cSP_make 55 = .ok (.invokevirtual 28, 3) := by decide +kernel
theorem dSP_make_58 : decode cSP_make 58 = .ok (.iastore, 1) := by decide +kernel
theorem dSP_make_59 : decode cSP_make 59 = .ok (.iinc 6 1, 3) := by decide +kernel
theorem dSP_make_62 : decode cSP_make 62 = .ok (.goto (-21), 3) := by decide +kernel
theorem dSP_make_65 : decode cSP_make 65 = .ok (.iconst 1, 1) := by decide +kernel
theorem dSP_make_66 : decode cSP_make 66 = .ok (.istore 6, 2) := by decide +kernel
theorem dSP_make_68 : decode cSP_make 68 = .ok (.iload 6, 2) := by decide +kernel
theorem dSP_make_70 : decode cSP_make 70 = .ok (.iload_n 3, 1) := by decide +kernel
theorem dSP_make_71 : decode cSP_make 71 = .ok (.if_icmp .gt 34, 3) := by decide +kernel
theorem dSP_make_74 : decode cSP_make 74 = .ok (.aload_n 0, 1) := by decide +kernel
theorem dSP_make_75 : decode cSP_make 75 = .ok (.getfield 9, 3) := by decide +kernel
theorem dSP_make_78 : decode cSP_make 78 = .ok (.iload 6, 2) := by decide +kernel
theorem dSP_make_80 : decode cSP_make 80 = .ok (.aload_n 0, 1) := by decide +kernel
theorem dSP_make_81 : decode cSP_make 81 = .ok (.getfield 9, 3) := by decide +kernel
theorem dSP_make_84 : decode cSP_make 84 = .ok (.iload 6, 2) := by decide +kernel
theorem dSP_make_86 : decode cSP_make 86 = .ok (.iaload, 1) := by decide +kernel
theorem dSP_make_87 : decode cSP_make 87 = .ok (.bipush 8, 2) := by decide +kernel
theorem dSP_make_89 : decode cSP_make 89 = .ok (.ishl, 1) := by decide +kernel
theorem dSP_make_90 : decode cSP_make 90 = .ok (.aload_n 0, 1) := by decide +kernel
theorem dSP_make_91 : decode cSP_make 91 = .ok (.iload 6, 2) := by decide +kernel
theorem dSP_make_93 : decode cSP_make 93 = .ok (.iload_n 2, 1) := by decide +kernel
theorem dSP_make_94 : decode cSP_make 94 = .ok (.invokevirtual 34, 3) := by decide +kernel
theorem dSP_make_97 : decode cSP_make 97 = .ok (.ior, 1) := by decide +kernel
theorem dSP_make_98 : decode cSP_make 98 = .ok (.iastore, 1) := by decide +kernel
theorem dSP_make_99 : decode cSP_make 99 = .ok (.iinc 6 1, 3) := by decide +kernel
theorem dSP_make_102 : decode cSP_make 102 = .ok (.goto (-34), 3) := by decide +kernel
theorem dSP_make_105 : decode cSP_make 105 = .ok (.iinc 5 (-1), 3) := by decide +kernel
theorem dSP_make_108 : decode cSP_make 108 = .ok (.goto (-92), 3) := by decide +kernel
theorem dSP_make_111 : decode cSP_make 111 = .ok (.aload_n 0, 1) := by decide +kernel
theorem dSP_make_112 : decode cSP_make 112 = .ok (.getfield 15, 3) := by decide +kernel
theorem dSP_make_115 : decode cSP_make 115 = .ok (.iconst 0, 1) := by decide +kernel
theorem dSP_make_116 : decode cSP_make 116 = .ok (.invokestatic 22, 3) := by decide +kernel
theorem dSP_make_119 : decode cSP_make 119 = .ok (.return_, 1) := by decide +kernel
theorem dSP_valueAt_0 : decode cSP_valueAt 0 = .ok (.iconst 0, 1) := by decide +kernel
theorem dSP_valueAt_1 : decode cSP_valueAt 1 = .ok (.istore_n 3, 1) := by decide +kernel
theorem dSP_valueAt_2 : decode cSP_valueAt 2 = .ok (.iload_n 2, 1) := by decide +kernel
theorem dSP_valueAt_3 : decode cSP_valueAt 3 = .ok (.iconst 1, 1) := by decide +kernel
theorem dSP_valueAt_4 : decode cSP_valueAt 4 = .ok (.isub, 1) := by decide +kernel
theorem dSP_valueAt_5 : decode cSP_valueAt 5 = .ok (.istore 4, 2) := by decide +kernel
theorem dSP_valueAt_7 : decode cSP_valueAt 7 = .ok (.iload 4, 2) := by decide +kernel
theorem dSP_valueAt_9 : decode cSP_valueAt 9 = .ok (.ifCond .lt 23, 3) := by decide +kernel
theorem dSP_valueAt_12 : decode cSP_valueAt 12 = .ok (.iload_n 3, 1) := by decide +kernel
theorem dSP_valueAt_13 : decode cSP_valueAt 13 = .ok (.iload_n 1, 1) := by decide +kernel
theorem dSP_valueAt_14 : decode cSP_valueAt 14 = .ok (.invokestatic 38, 3) := by decide +kernel
theorem dSP_valueAt_17 : decode cSP_valueAt 17 = .ok (.aload_n 0, 1) := by decide +kernel
theorem dSP_valueAt_18 : decode cSP_valueAt 18 = .ok (.getfield 15, 3) := by decide +kernel
theorem dSP_valueAt_21 : decode cSP_valueAt 21 = .ok (.iload 4, 2) := by decide +kernel
theorem dSP_valueAt_23 : decode cSP_valueAt 23 = .ok (.iaload, 1) := by decide +kernel
theorem dSP_valueAt_24 : decode cSP_valueAt 24 = .ok (.ixor, 1) := by decide +kernel
theorem dSP_valueAt_25 : decode cSP_valueAt 25 = .ok (.istore_n 3, 1) := by decide +kernel
theorem dSP_valueAt_26 : decode cSP_valueAt 26 = .ok (.iinc 4 (-1), 3) := by decide +kernel
theorem dSP_valueAt_29 : decode cSP_valueAt 29 = .ok (.goto (-22), 3) := by decide +kernel
theorem dSP_valueAt_32 : decode cSP_valueAt 32 = .ok (.iload_n 3, 1) := by decide +kernel
theorem dSP_valueAt_33 : decode cSP_valueAt 33 = .ok (.ireturn, 1) := by decide +kernel
theorem dVE_takeEscrow_0 : decode cVE_takeEscrow 0 = .ok (.aload_n 0, 1) := by decide +kernel
theorem dVE_takeEscrow_1 : decode cVE_takeEscrow 1 = .ok (.iload_n 1, 1) := by decide +kernel
theorem dVE_takeEscrow_2 : decode cVE_takeEscrow 2 = .ok (.putfield 26, 3) := by decide +kernel
theorem dVE_takeEscrow_5 : decode cVE_takeEscrow 5 = .ok (.aload_n 0, 1) := by decide +kernel
theorem dVE_takeEscrow_6 : decode cVE_takeEscrow 6 = .ok (.iload_n 2, 1) := by decide +kernel
theorem dVE_takeEscrow_7 : decode cVE_takeEscrow 7 = .ok (.putfield 29, 3) := by decide +kernel
theorem dVE_takeEscrow_10 : decode cVE_takeEscrow 10 = .ok (.aload_n 0, 1) := by decide +kernel
theorem dVE_takeEscrow_11 : decode cVE_takeEscrow 11 = .ok (.getfield 9, 3) := by decide +kernel
theorem dVE_takeEscrow_14 : decode cVE_takeEscrow 14 = .ok (.iconst 0, 1) := by decide +kernel
theorem dVE_takeEscrow_15 : decode cVE_takeEscrow 15 = .ok (.invokestatic 44, 3) := by decide +kernel
theorem dVE_takeEscrow_18 : decode cVE_takeEscrow 18 = .ok (.iconst 1, 1) := by decide +kernel
theorem dVE_takeEscrow_19 : decode cVE_takeEscrow 19 = .ok (.istore 4, 2) := by decide +kernel
theorem dVE_takeEscrow_21 : decode cVE_takeEscrow 21 = .ok (.iload 4, 2) := by decide +kernel
theorem dVE_takeEscrow_23 : decode cVE_takeEscrow 23 = .ok (.iload_n 2, 1) := by decide +kernel
theorem dVE_takeEscrow_24 : decode cVE_takeEscrow 24 = .ok (.if_icmp .gt 28, 3) := by decide +kernel
theorem dVE_takeEscrow_27 : decode cVE_takeEscrow 27 = .ok (.aload_n 0, 1) := by decide +kernel
theorem dVE_takeEscrow_28 : decode cVE_takeEscrow 28 = .ok (.getfield 9, 3) := by decide +kernel
theorem dVE_takeEscrow_31 : decode cVE_takeEscrow 31 = .ok (.iload 4, 2) := by decide +kernel
theorem dVE_takeEscrow_33 : decode cVE_takeEscrow 33 = .ok (.iload 4, 2) := by decide +kernel
theorem dVE_takeEscrow_35 : decode cVE_takeEscrow 35 = .ok (.aload_n 3, 1) := by decide +kernel
theorem dVE_takeEscrow_36 : decode cVE_takeEscrow 36 = .ok (.getfield 50, 3) := by decide +kernel
theorem dVE_takeEscrow_39 : decode cVE_takeEscrow 39 = .ok (.iload 4, 2) := by decide +kernel
theorem dVE_takeEscrow_41 : decode cVE_takeEscrow 41 = .ok (.iaload, 1) := by decide +kernel
theorem dVE_takeEscrow_42 : decode cVE_takeEscrow 42 = .ok (.invokestatic 55, 3) := by decide +kernel
theorem dVE_takeEscrow_45 : decode cVE_takeEscrow 45 = .ok (.iastore, 1) := by decide +kernel
theorem dVE_takeEscrow_46 : decode cVE_takeEscrow 46 = .ok (.iinc 4 1, 3) := by decide +kernel
theorem dVE_takeEscrow_49 : decode cVE_takeEscrow 49 = .ok (.goto (-28), 3) := by decide +kernel
theorem dVE_takeEscrow_52 : decode cVE_takeEscrow 52 = .ok (.return_, 1) := by decide +kernel
theorem dVE_escrow_0 : decode cVE_escrow 0 = .ok (.bipush 16, 2) := by decide +kernel
theorem dVE_escrow_2 : decode cVE_escrow 2 = .ok (.aload_n 0, 1) := by decide +kernel
theorem dVE_escrow_3 : decode cVE_escrow 3 = .ok (.getfield 26, 3) := by decide +kernel
theorem dVE_escrow_6 : decode cVE_escrow 6 = .ok (.imul, 1) := by decide +kernel
theorem dVE_escrow_7 : decode cVE_escrow 7 = .ok (.aload_n 0, 1) := by decide +kernel
theorem dVE_escrow_8 : decode cVE_escrow 8 = .ok (.getfield 29, 3) := by decide +kernel
theorem dVE_escrow_11 : decode cVE_escrow 11 = .ok (.iadd, 1) := by decide +kernel
theorem dVE_escrow_12 : decode cVE_escrow 12 = .ok (.ireturn, 1) := by decide +kernel
theorem dVE_close_0 : decode cVE_close 0 = .ok (.aload_n 0, 1) := by decide +kernel
theorem dVE_close_1 : decode cVE_close 1 = .ok (.iconst 1, 1) := by decide +kernel
theorem dVE_close_2 : decode cVE_close 2 = .ok (.putfield 22, 3) := by decide +kernel
theorem dVE_close_5 : decode cVE_close 5 = .ok (.aload_n 0, 1) := by decide +kernel
theorem dVE_close_6 : decode cVE_close 6 = .ok (.iconst 0, 1) := by decide +kernel
theorem dVE_close_7 : decode cVE_close 7 = .ok (.putfield 41, 3) := by decide +kernel
theorem dVE_close_10 : decode cVE_close 10 = .ok (.aload_n 0, 1) := by decide +kernel
theorem dVE_close_11 : decode cVE_close 11 = .ok (.invokevirtual 59, 3) := by decide +kernel
theorem dVE_close_14 : decode cVE_close 14 = .ok (.return_, 1) := by decide +kernel
theorem dVE_fits_0 : decode cVE_fits 0 = .ok (.iload_n 1, 1) := by decide +kernel
theorem dVE_fits_1 : decode cVE_fits 1 = .ok (.iconst 1, 1) := by decide +kernel
theorem dVE_fits_2 : decode cVE_fits 2 = .ok (.if_icmp .lt 29, 3) := by decide +kernel
theorem dVE_fits_5 : decode cVE_fits 5 = .ok (.iload_n 1, 1) := by decide +kernel
theorem dVE_fits_6 : decode cVE_fits 6 = .ok (.aload_n 0, 1) := by decide +kernel
theorem dVE_fits_7 : decode cVE_fits 7 = .ok (.getfield 29, 3) := by decide +kernel
theorem dVE_fits_10 : decode cVE_fits 10 = .ok (.if_icmp .gt 21, 3) := by decide +kernel
theorem dVE_fits_13 : decode cVE_fits 13 = .ok (.aload_n 0, 1) := by decide +kernel
theorem dVE_fits_14 : decode cVE_fits 14 = .ok (.getfield 9, 3) := by decide +kernel
theorem dVE_fits_17 : decode cVE_fits 17 = .ok (.iload_n 1, 1) := by decide +kernel
theorem dVE_fits_18 : decode cVE_fits 18 = .ok (.iaload, 1) := by decide +kernel
theorem dVE_fits_19 : decode cVE_fits 19 = .ok (.iload_n 1, 1) := by decide +kernel
theorem dVE_fits_20 : decode cVE_fits 20 = .ok (.iload_n 2, 1) := by decide +kernel
theorem dVE_fits_21 : decode cVE_fits 21 = .ok (.invokestatic 55, 3) := by decide +kernel
theorem dVE_fits_24 : decode cVE_fits 24 = .ok (.if_icmp .ne 7, 3) := by decide +kernel
theorem dVE_fits_27 : decode cVE_fits 27 = .ok (.iconst 1, 1) := by decide +kernel
theorem dVE_fits_28 : decode cVE_fits 28 = .ok (.goto 4, 3) := by decide +kernel
theorem dVE_fits_31 : decode cVE_fits 31 = .ok (.iconst 0, 1) := by decide +kernel
theorem dVE_fits_32 : decode cVE_fits 32 = .ok (.ireturn, 1) := by decide +kernel
theorem dVE_isGiven_0 : decode cVE_isGiven 0 = .ok (.aload_n 0, 1) := by decide +kernel
theorem dVE_isGiven_1 : decode cVE_isGiven 1 = .ok (.getfield 32, 3) := by decide +kernel
theorem dVE_isGiven_4 : decode cVE_isGiven 4 = .ok (.iload_n 1, 1) := by decide +kernel
theorem dVE_isGiven_5 : decode cVE_isGiven 5 = .ok (.ishr, 1) := by decide +kernel
theorem dVE_isGiven_6 : decode cVE_isGiven 6 = .ok (.iconst 1, 1) := by decide +kernel
theorem dVE_isGiven_7 : decode cVE_isGiven 7 = .ok (.iand, 1) := by decide +kernel
theorem dVE_isGiven_8 : decode cVE_isGiven 8 = .ok (.ifCond .eq 7, 3) := by decide +kernel
theorem dVE_isGiven_11 : decode cVE_isGiven 11 = .ok (.iconst 1, 1) := by decide +kernel
theorem dVE_isGiven_12 : decode cVE_isGiven 12 = .ok (.goto 4, 3) := by decide +kernel
theorem dVE_isGiven_15 : decode cVE_isGiven 15 = .ok (.iconst 0, 1) := by decide +kernel
theorem dVE_isGiven_16 : decode cVE_isGiven 16 = .ok (.ireturn, 1) := by decide +kernel
theorem dVE_accept_0 : decode cVE_accept 0 = .ok (.aload_n 0, 1) := by decide +kernel
theorem dVE_accept_1 : decode cVE_accept 1 = .ok (.getfield 15, 3) := by decide +kernel
theorem dVE_accept_4 : decode cVE_accept 4 = .ok (.iload_n 1, 1) := by decide +kernel
theorem dVE_accept_5 : decode cVE_accept 5 = .ok (.iload_n 2, 1) := by decide +kernel
theorem dVE_accept_6 : decode cVE_accept 6 = .ok (.iastore, 1) := by decide +kernel
theorem dVE_accept_7 : decode cVE_accept 7 = .ok (.aload_n 0, 1) := by decide +kernel
theorem dVE_accept_8 : decode cVE_accept 8 = .ok (.dup, 1) := by decide +kernel
theorem dVE_accept_9 : decode cVE_accept 9 = .ok (.getfield 32, 3) := by decide +kernel
theorem dVE_accept_12 : decode cVE_accept 12 = .ok (.iconst 1, 1) := by decide +kernel
theorem dVE_accept_13 : decode cVE_accept 13 = .ok (.iload_n 1, 1) := by decide +kernel
theorem dVE_accept_14 : decode cVE_accept 14 = .ok (.ishl, 1) := by decide +kernel
theorem dVE_accept_15 : decode cVE_accept 15 = .ok (.ior, 1) := by decide +kernel
theorem dVE_accept_16 : decode cVE_accept 16 = .ok (.putfield 32, 3) := by decide +kernel
theorem dVE_accept_19 : decode cVE_accept 19 = .ok (.aload_n 0, 1) := by decide +kernel
theorem dVE_accept_20 : decode cVE_accept 20 = .ok (.dup, 1) := by decide +kernel
theorem dVE_accept_21 : decode cVE_accept 21 = .ok (.getfield 35, 3) := by decide +kernel
theorem dVE_accept_24 : decode cVE_accept 24 = .ok (.iconst 1, 1) := by decide +kernel
theorem dVE_accept_25 : decode cVE_accept 25 = .ok (.iadd, 1) := by decide +kernel
theorem dVE_accept_26 : decode cVE_accept 26 = .ok (.putfield 35, 3) := by decide +kernel
theorem dVE_accept_29 : decode cVE_accept 29 = .ok (.return_, 1) := by decide +kernel
theorem dVE_open_0 : decode cVE_open 0 = .ok (.aload_n 0, 1) := by decide +kernel
theorem dVE_open_1 : decode cVE_open 1 = .ok (.aload_n 0, 1) := by decide +kernel
theorem dVE_open_2 : decode cVE_open 2 = .ok (.invokevirtual 62, 3) := by decide +kernel
theorem dVE_open_5 : decode cVE_open 5 = .ok (.putfield 41, 3) := by decide +kernel
theorem dVE_open_8 : decode cVE_open 8 = .ok (.aload_n 0, 1) := by decide +kernel
theorem dVE_open_9 : decode cVE_open 9 = .ok (.iconst 0, 1) := by decide +kernel
theorem dVE_open_10 : decode cVE_open 10 = .ok (.putfield 22, 3) := by decide +kernel
theorem dVE_open_13 : decode cVE_open 13 = .ok (.aload_n 0, 1) := by decide +kernel
theorem dVE_open_14 : decode cVE_open 14 = .ok (.invokevirtual 59, 3) := by decide +kernel
theorem dVE_open_17 : decode cVE_open 17 = .ok (.return_, 1) := by decide +kernel
theorem dVE_putTogether_0 : decode cVE_putTogether 0 = .ok (.iconst 0, 1) := by decide +kernel
theorem dVE_putTogether_1 : decode cVE_putTogether 1 = .ok (.istore_n 1, 1) := by decide +kernel
theorem dVE_putTogether_2 : decode cVE_putTogether 2 = .ok (.iconst 1, 1) := by decide +kernel
theorem dVE_putTogether_3 : decode cVE_putTogether 3 = .ok (.istore_n 2, 1) := by decide +kernel
theorem dVE_putTogether_4 : decode cVE_putTogether 4 = .ok (.iload_n 2, 1) := by decide +kernel
theorem dVE_putTogether_5 : decode cVE_putTogether 5 = .ok (.bipush 8, 2) := by decide +kernel
theorem dVE_putTogether_7 : decode cVE_putTogether 7 = .ok (.if_icmp .gt 34, 3) := by decide +kernel
theorem dVE_putTogether_10 : decode cVE_putTogether 10 = .ok (.aload_n 0, 1) := by decide +kernel
theorem dVE_putTogether_11 : decode cVE_putTogether 11 = .ok (.iload_n 2, 1) := by decide +kernel
theorem dVE_putTogether_12 : decode cVE_putTogether 12 = .ok (.invokevirtual 66, 3) := by decide +kernel
theorem dVE_putTogether_15 : decode cVE_putTogether 15 = .ok (.ifCond .eq 20, 3) := by decide +kernel
theorem dVE_putTogether_18 : decode cVE_putTogether 18 = .ok (.iload_n 1, 1) := by decide +kernel
theorem dVE_putTogether_19 : decode cVE_putTogether 19 = .ok (.aload_n 0, 1) := by decide +kernel
theorem dVE_putTogether_20 : decode cVE_putTogether 20 = .ok (.getfield 15, 3) := by decide +kernel
theorem dVE_putTogether_23 : decode cVE_putTogether 23 = .ok (.iload_n 2, 1) := by decide +kernel
theorem dVE_putTogether_24 : decode cVE_putTogether 24 = .ok (.iaload, 1) := by decide +kernel
theorem dVE_putTogether_25 : decode cVE_putTogether 25 = .ok (.aload_n 0, 1) := by decide +kernel
theorem dVE_putTogether_26 : decode cVE_putTogether 26 = .ok (.iload_n 2, 1) := by decide +kernel
theorem dVE_putTogether_27 : decode cVE_putTogether 27 = .ok (.invokevirtual 70, 3) := by decide +kernel
theorem dVE_putTogether_30 : decode cVE_putTogether 30 = .ok (.invokestatic 74, 3) := by decide +kernel
theorem dVE_putTogether_33 : decode cVE_putTogether 33 = .ok (.ixor, 1) := by decide +kernel
theorem dVE_putTogether_34 : decode cVE_putTogether 34 = .ok (.istore_n 1, 1) := by decide +kernel
theorem dVE_putTogether_35 : decode cVE_putTogether 35 = .ok (.iinc 2 1, 3) := by decide +kernel
theorem dVE_putTogether_38 : decode cVE_putTogether 38 = .ok (.goto (-34), 3) := by decide +kernel
theorem dVE_putTogether_41 : decode cVE_putTogether 41 = .ok (.iload_n 1, 1) := by decide +kernel
theorem dVE_putTogether_42 : decode cVE_putTogether 42 = .ok (.ireturn, 1) := by decide +kernel
theorem dVE_weightAtZero_0 : decode cVE_weightAtZero 0 = .ok (.iconst 1, 1) := by decide +kernel
theorem dVE_weightAtZero_1 : decode cVE_weightAtZero 1 = .ok (.istore_n 2, 1) := by decide +kernel
theorem dVE_weightAtZero_2 : decode cVE_weightAtZero 2 = .ok (.iconst 1, 1) := by decide +kernel
theorem dVE_weightAtZero_3 : decode cVE_weightAtZero 3 = .ok (.istore_n 3, 1) := by decide +kernel
theorem dVE_weightAtZero_4 : decode cVE_weightAtZero 4 = .ok (.iload_n 3, 1) := by decide +kernel
theorem dVE_weightAtZero_5 : decode cVE_weightAtZero 5 = .ok (.bipush 8, 2) := by decide +kernel
theorem dVE_weightAtZero_7 : decode cVE_weightAtZero 7 = .ok (.if_icmp .gt 37, 3) := by decide +kernel
theorem dVE_weightAtZero_10 : decode cVE_weightAtZero 10 = .ok (.iload_n 3, 1) := by decide +kernel
theorem dVE_weightAtZero_11 : decode cVE_weightAtZero 11 = .ok (.iload_n 1, 1) := by decide +kernel
theorem dVE_weightAtZero_12 : decode cVE_weightAtZero 12 = .ok (.if_icmp .eq 26, 3) := by decide +kernel
theorem dVE_weightAtZero_15 : decode cVE_weightAtZero 15 = .ok (.aload_n 0, 1) := by decide +kernel
theorem dVE_weightAtZero_16 : decode cVE_weightAtZero 16 = .ok (.iload_n 3, 1) := by decide +kernel
theorem dVE_weightAtZero_17 : decode cVE_weightAtZero 17 = .ok (.invokevirtual 66, 3) := by decide +kernel
theorem dVE_weightAtZero_20 : decode cVE_weightAtZero 20 = .ok (.ifCond .eq 18, 3) := by decide +kernel
theorem dVE_weightAtZero_23 : decode cVE_weightAtZero 23 = .ok (.iload_n 2, 1) := by decide +kernel
theorem dVE_weightAtZero_24 : decode cVE_weightAtZero 24 = .ok (.iload_n 3, 1) := by decide +kernel
theorem dVE_weightAtZero_25 : decode cVE_weightAtZero 25 = .ok (.iload_n 3, 1) := by decide +kernel
theorem dVE_weightAtZero_26 : decode cVE_weightAtZero 26 = .ok (.iload_n 1, 1) := by decide +kernel
theorem dVE_weightAtZero_27 : decode cVE_weightAtZero 27 = .ok (.ixor, 1) := by decide +kernel
theorem dVE_weightAtZero_28 : decode cVE_weightAtZero 28 = .ok (.invokestatic 77, 3) := by decide +kernel
theorem dVE_weightAtZero_31 : decode cVE_weightAtZero 31 = .ok (.invokestatic 82, 3) := by decide +kernel
theorem dVE_weightAtZero_34 : decode cVE_weightAtZero 34 = .ok (.invokestatic 82, 3) := by decide +kernel
theorem dVE_weightAtZero_37 : decode cVE_weightAtZero 37 = .ok (.istore_n 2, 1) := by decide +kernel
theorem dVE_weightAtZero_38 : decode cVE_weightAtZero 38 = .ok (.iinc 3 1, 3) := by decide +kernel
theorem dVE_weightAtZero_41 : decode cVE_weightAtZero 41 = .ok (.goto (-37), 3) := by decide +kernel
theorem dVE_weightAtZero_44 : decode cVE_weightAtZero 44 = .ok (.iload_n 2, 1) := by decide +kernel
theorem dVE_weightAtZero_45 : decode cVE_weightAtZero 45 = .ok (.ireturn, 1) := by decide +kernel
theorem dFI_inverse_0 : decode cFI_inverse 0 = .ok (.iload_n 0, 1) := by decide +kernel
theorem dFI_inverse_1 : decode cFI_inverse 1 = .ok (.istore_n 1, 1) := by decide +kernel
theorem dFI_inverse_2 : decode cFI_inverse 2 = .ok (.iconst 1, 1) := by decide +kernel
theorem dFI_inverse_3 : decode cFI_inverse 3 = .ok (.istore_n 2, 1) := by decide +kernel
theorem dFI_inverse_4 : decode cFI_inverse 4 = .ok (.iconst 1, 1) := by decide +kernel
theorem dFI_inverse_5 : decode cFI_inverse 5 = .ok (.istore_n 3, 1) := by decide +kernel
theorem dFI_inverse_6 : decode cFI_inverse 6 = .ok (.iload_n 3, 1) := by decide +kernel
theorem dFI_inverse_7 : decode cFI_inverse 7 = .ok (.bipush 8, 2) := by decide +kernel
theorem dFI_inverse_9 : decode cFI_inverse 9 = .ok (.if_icmp .ge 21, 3) := by decide +kernel
theorem dFI_inverse_12 : decode cFI_inverse 12 = .ok (.iload_n 1, 1) := by decide +kernel
theorem dFI_inverse_13 : decode cFI_inverse 13 = .ok (.iload_n 1, 1) := by decide +kernel
theorem dFI_inverse_14 : decode cFI_inverse 14 = .ok (.invokestatic 9, 3) := by decide +kernel
theorem dFI_inverse_17 : decode cFI_inverse 17 = .ok (.istore_n 1, 1) := by decide +kernel
theorem dFI_inverse_18 : decode cFI_inverse 18 = .ok (.iload_n 2, 1) := by decide +kernel
theorem dFI_inverse_19 : decode cFI_inverse 19 = .ok (.iload_n 1, 1) := by decide +kernel
theorem dFI_inverse_20 : decode cFI_inverse 20 = .ok (.invokestatic 9, 3) := by decide +kernel
theorem dFI_inverse_23 : decode cFI_inverse 23 = .ok (.istore_n 2, 1) := by decide +kernel
theorem dFI_inverse_24 : decode cFI_inverse 24 = .ok (.iinc 3 1, 3) := by decide +kernel
theorem dFI_inverse_27 : decode cFI_inverse 27 = .ok (.goto (-21), 3) := by decide +kernel
theorem dFI_inverse_30 : decode cFI_inverse 30 = .ok (.iload_n 2, 1) := by decide +kernel
theorem dFI_inverse_31 : decode cFI_inverse 31 = .ok (.ireturn, 1) := by decide +kernel
theorem dVE_scaled_0 : decode cVE_scaled 0 = .ok (.iconst 0, 1) := by decide +kernel
theorem dVE_scaled_1 : decode cVE_scaled 1 = .ok (.istore_n 2, 1) := by decide +kernel
theorem dVE_scaled_2 : decode cVE_scaled 2 = .ok (.iconst 3, 1) := by decide +kernel
theorem dVE_scaled_3 : decode cVE_scaled 3 = .ok (.istore_n 3, 1) := by decide +kernel
theorem dVE_scaled_4 : decode cVE_scaled 4 = .ok (.iload_n 3, 1) := by decide +kernel
theorem dVE_scaled_5 : decode cVE_scaled 5 = .ok (.ifCond .lt 29, 3) := by decide +kernel
theorem dVE_scaled_8 : decode cVE_scaled 8 = .ok (.iload_n 2, 1) := by decide +kernel
theorem dVE_scaled_9 : decode cVE_scaled 9 = .ok (.bipush 8, 2) := by decide +kernel
theorem dVE_scaled_11 : decode cVE_scaled 11 = .ok (.ishl, 1) := by decide +kernel
theorem dVE_scaled_12 : decode cVE_scaled 12 = .ok (.iload_n 0, 1) := by decide +kernel
theorem dVE_scaled_13 : decode cVE_scaled 13 = .ok (.bipush 8, 2) := by decide +kernel
theorem dVE_scaled_15 : decode cVE_scaled 15 = .ok (.iload_n 3, 1) := by decide +kernel
theorem dVE_scaled_16 : decode cVE_scaled 16 = .ok (.imul, 1) := by decide +kernel
theorem dVE_scaled_17 : decode cVE_scaled 17 = .ok (.iushr, 1) := by decide +kernel
theorem dVE_scaled_18 : decode cVE_scaled 18 = .ok (.sipush 255, 3) := by decide +kernel
theorem dVE_scaled_21 : decode cVE_scaled 21 = .ok (.iand, 1) := by decide +kernel
theorem dVE_scaled_22 : decode cVE_scaled 22 = .ok (.iload_n 1, 1) := by decide +kernel
theorem dVE_scaled_23 : decode cVE_scaled 23 = .ok (.invokestatic 82, 3) := by decide +kernel
theorem dVE_scaled_26 : decode cVE_scaled 26 = .ok (.ior, 1) := by decide +kernel
theorem dVE_scaled_27 : decode cVE_scaled 27 = .ok (.istore_n 2, 1) := by decide +kernel
theorem dVE_scaled_28 : decode cVE_scaled 28 = .ok (.iinc 3 (-1), 3) := by decide +kernel
theorem dVE_scaled_31 : decode cVE_scaled 31 = .ok (.goto (-27), 3) := by decide +kernel
theorem dVE_scaled_34 : decode cVE_scaled 34 = .ok (.iload_n 2, 1) := by decide +kernel
theorem dVE_scaled_35 : decode cVE_scaled 35 = .ok (.ireturn, 1) := by decide +kernel
theorem dEN_putBehind_0 : decode cEN_putBehind 0 = .ok (.iload_n 2, 1) := by decide +kernel
theorem dEN_putBehind_1 : decode cEN_putBehind 1 = .ok (.iconst 1, 1) := by decide +kernel
theorem dEN_putBehind_2 : decode cEN_putBehind 2 = .ok (.isub, 1) := by decide +kernel
theorem dEN_putBehind_3 : decode cEN_putBehind 3 = .ok (.istore_n 3, 1) := by decide +kernel
theorem dEN_putBehind_4 : decode cEN_putBehind 4 = .ok (.iload_n 3, 1) := by decide +kernel
theorem dEN_putBehind_5 : decode cEN_putBehind 5 = .ok (.ifCond .lt 28, 3) := by decide +kernel
theorem dEN_putBehind_8 : decode cEN_putBehind 8 = .ok (.aload_n 0, 1) := by decide +kernel
theorem dEN_putBehind_9 : decode cEN_putBehind 9 = .ok (.aload_n 0, 1) := by decide +kernel
theorem dEN_putBehind_10 : decode cEN_putBehind 10 = .ok (.getfield 15, 3) := by decide +kernel
theorem dEN_putBehind_13 : decode cEN_putBehind 13 = .ok (.iload_n 1, 1) := by decide +kernel
theorem dEN_putBehind_14 : decode cEN_putBehind 14 = .ok (.bipush 8, 2) := by decide +kernel
theorem dEN_putBehind_16 : decode cEN_putBehind 16 = .ok (.iload_n 3, 1) := by decide +kernel
theorem dEN_putBehind_17 : decode cEN_putBehind 17 = .ok (.imul, 1) := by decide +kernel
theorem dEN_putBehind_18 : decode cEN_putBehind 18 = .ok (.iushr, 1) := by decide +kernel
theorem dEN_putBehind_19 : decode cEN_putBehind 19 = .ok (.sipush 255, 3) := by decide +kernel
theorem dEN_putBehind_22 : decode cEN_putBehind 22 = .ok (.iand, 1) := by decide +kernel
theorem dEN_putBehind_23 : decode cEN_putBehind 23 = .ok (.invokevirtual 23, 3) := by decide +kernel
theorem dEN_putBehind_26 : decode cEN_putBehind 26 = .ok (.pop, 1) := by decide +kernel
theorem dEN_putBehind_27 : decode cEN_putBehind 27 = .ok (.iinc 3 (-1), 3) := by decide +kernel
theorem dEN_putBehind_30 : decode cEN_putBehind 30 = .ok (.goto (-26), 3) := by decide +kernel
theorem dEN_putBehind_33 : decode cEN_putBehind 33 = .ok (.return_, 1) := by decide +kernel
theorem dEN_put_0 : decode cEN_put 0 = .ok (.iload_n 1, 1) := by decide +kernel
theorem dEN_put_1 : decode cEN_put 1 = .ok (.ifCond .lt 24, 3) := by decide +kernel
theorem dEN_put_4 : decode cEN_put 4 = .ok (.iload_n 1, 1) := by decide +kernel
theorem dEN_put_5 : decode cEN_put 5 = .ok (.aload_n 0, 1) := by decide +kernel
theorem dEN_put_6 : decode cEN_put 6 = .ok (.getfield 15, 3) := by decide +kernel
theorem dEN_put_9 : decode cEN_put 9 = .ok (.if_icmp .gt 16, 3) := by decide +kernel
theorem dEN_put_12 : decode cEN_put 12 = .ok (.iload_n 1, 1) := by decide +kernel
theorem dEN_put_13 : decode cEN_put 13 = .ok (.bipush 16, 2) := by decide +kernel
theorem dEN_put_15 : decode cEN_put 15 = .ok (.if_icmp .ge 10, 3) := by decide +kernel
theorem dEN_put_18 : decode cEN_put 18 = .ok (.iload_n 2, 1) := by decide +kernel
theorem dEN_put_19 : decode cEN_put 19 = .ok (.invokestatic 19, 3) := by decide +kernel
theorem dEN_put_22 : decode cEN_put 22 = .ok (.ifCond .ne 5, 3) := by decide +kernel
theorem dEN_put_25 : decode cEN_put 25 = .ok (.iconst 0, 1) := by decide +kernel
theorem dEN_put_26 : decode cEN_put 26 = .ok (.ireturn, 1) := by decide +kernel
theorem dEN_put_27 : decode cEN_put 27 = .ok (.aload_n 0, 1) := by decide +kernel
theorem dEN_put_28 : decode cEN_put 28 = .ok (.getfield 9, 3) := by decide +kernel
theorem dEN_put_31 : decode cEN_put 31 = .ok (.iload_n 1, 1) := by decide +kernel
theorem dEN_put_32 : decode cEN_put 32 = .ok (.iload_n 2, 1) := by decide +kernel
theorem dEN_put_33 : decode cEN_put 33 = .ok (.iastore, 1) := by decide +kernel
theorem dEN_put_34 : decode cEN_put 34 = .ok (.iload_n 1, 1) := by decide +kernel
theorem dEN_put_35 : decode cEN_put 35 = .ok (.aload_n 0, 1) := by decide +kernel
theorem dEN_put_36 : decode cEN_put 36 = .ok (.getfield 15, 3) := by decide +kernel
theorem dEN_put_39 : decode cEN_put 39 = .ok (.if_icmp .ne 13, 3) := by decide +kernel
theorem dEN_put_42 : decode cEN_put 42 = .ok (.aload_n 0, 1) := by decide +kernel
theorem dEN_put_43 : decode cEN_put 43 = .ok (.dup, 1) := by decide +kernel
theorem dEN_put_44 : decode cEN_put 44 = .ok (.getfield 15, 3) := by decide +kernel
theorem dEN_put_47 : decode cEN_put 47 = .ok (.iconst 1, 1) := by decide +kernel
theorem dEN_put_48 : decode cEN_put 48 = .ok (.iadd, 1) := by decide +kernel
theorem dEN_put_49 : decode cEN_put 49 = .ok (.putfield 15, 3) := by decide +kernel
theorem dEN_put_52 : decode cEN_put 52 = .ok (.iconst 1, 1) := by decide +kernel
theorem dEN_put_53 : decode cEN_put 53 = .ok (.ireturn, 1) := by decide +kernel
theorem dEN_number_0 : decode cEN_number 0 = .ok (.iconst 0, 1) := by decide +kernel
theorem dEN_number_1 : decode cEN_number 1 = .ok (.istore_n 3, 1) := by decide +kernel
theorem dEN_number_2 : decode cEN_number 2 = .ok (.iload_n 1, 1) := by decide +kernel
theorem dEN_number_3 : decode cEN_number 3 = .ok (.istore 4, 2) := by decide +kernel
theorem dEN_number_5 : decode cEN_number 5 = .ok (.iload 4, 2) := by decide +kernel
theorem dEN_number_7 : decode cEN_number 7 = .ok (.iload_n 1, 1) := by decide +kernel
theorem dEN_number_8 : decode cEN_number 8 = .ok (.iload_n 2, 1) := by decide +kernel
theorem dEN_number_9 : decode cEN_number 9 = .ok (.iadd, 1) := by decide +kernel
theorem dEN_number_10 : decode cEN_number 10 = .ok (.if_icmp .ge 22, 3) := by decide +kernel
theorem dEN_number_13 : decode cEN_number 13 = .ok (.iload_n 3, 1) := by decide +kernel
theorem dEN_number_14 : decode cEN_number 14 = .ok (.bipush 8, 2) := by decide +kernel
theorem dEN_number_16 : decode cEN_number 16 = .ok (.ishl, 1) := by decide +kernel
theorem dEN_number_17 : decode cEN_number 17 = .ok (.aload_n 0, 1) := by decide +kernel
theorem dEN_number_18 : decode cEN_number 18 = .ok (.getfield 9, 3) := by decide +kernel
theorem dEN_number_21 : decode cEN_number 21 = .ok (.iload 4, 2) := by decide +kernel
theorem dEN_number_23 : decode cEN_number 23 = .ok (.iaload, 1) := by decide +kernel
theorem dEN_number_24 : decode cEN_number 24 = .ok (.ior, 1) := by decide +kernel
theorem dEN_number_25 : decode cEN_number 25 = .ok (.istore_n 3, 1) := by decide +kernel
theorem dEN_number_26 : decode cEN_number 26 = .ok (.iinc 4 1, 3) := by decide +kernel
theorem dEN_number_29 : decode cEN_number 29 = .ok (.goto (-24), 3) := by decide +kernel
theorem dEN_number_32 : decode cEN_number 32 = .ok (.iload_n 3, 1) := by decide +kernel
theorem dEN_number_33 : decode cEN_number 33 = .ok (.ireturn, 1) := by decide +kernel
