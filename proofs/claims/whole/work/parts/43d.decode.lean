theorem dX7_twoAt_11 : decode cX7_twoAt 11 = .ok (.iadd, 1) := by decide +kernel
theorem dX7_twoAt_12 : decode cX7_twoAt 12 = .ok (.invokestatic 111, 3) := by decide +kernel
theorem dX7_twoAt_15 : decode cX7_twoAt 15 = .ok (.ior, 1) := by decide +kernel
theorem dX7_twoAt_16 : decode cX7_twoAt 16 = .ok (.ireturn, 1) := by decide +kernel
theorem dX7_intAt_0 : decode cX7_intAt 0 = .ok (.aload_n 0, 1) := by decide +kernel
theorem dX7_intAt_1 : decode cX7_intAt 1 = .ok (.iload_n 1, 1) := by decide +kernel
theorem dX7_intAt_2 : decode cX7_intAt 2 = .ok (.invokestatic 115, 3) := by decide +kernel
theorem dX7_intAt_5 : decode cX7_intAt 5 = .ok (.bipush 16, 2) := by decide +kernel
theorem dX7_intAt_7 : decode cX7_intAt 7 = .ok (.ishl, 1) := by decide +kernel
theorem dX7_intAt_8 : decode cX7_intAt 8 = .ok (.aload_n 0, 1) := by decide +kernel
theorem dX7_intAt_9 : decode cX7_intAt 9 = .ok (.iload_n 1, 1) := by decide +kernel
theorem dX7_intAt_10 : decode cX7_intAt 10 = .ok (.iconst 2, 1) := by decide +kernel
theorem dX7_intAt_11 : decode cX7_intAt 11 = .ok (.iadd, 1) := by decide +kernel
theorem dX7_intAt_12 : decode cX7_intAt 12 = .ok (.invokestatic 115, 3) := by decide +kernel
theorem dX7_intAt_15 : decode cX7_intAt 15 = .ok (.ior, 1) := by decide +kernel
theorem dX7_intAt_16 : decode cX7_intAt 16 = .ok (.ireturn, 1) := by decide +kernel
theorem dX7_longAt_0 : decode cX7_longAt 0 = .ok (.aload_n 0, 1) := by decide +kernel
theorem dX7_longAt_1 : decode cX7_longAt 1 = .ok (.iload_n 1, 1) := by decide +kernel
theorem dX7_longAt_2 : decode cX7_longAt 2 = .ok (.invokestatic 118, 3) := by decide +kernel
theorem dX7_longAt_5 : decode cX7_longAt 5 = .ok (.i2l, 1) := by decide +kernel
theorem dX7_longAt_6 : decode cX7_longAt 6 = .ok (.bipush 32, 2) := by decide +kernel
theorem dX7_longAt_8 : decode cX7_longAt 8 = .ok (.lshl, 1) := by decide +kernel
theorem dX7_longAt_9 : decode cX7_longAt 9 = .ok (.aload_n 0, 1) := by decide +kernel
theorem dX7_longAt_10 : decode cX7_longAt 10 = .ok (.iload_n 1, 1) := by decide +kernel
theorem dX7_longAt_11 : decode cX7_longAt 11 = .ok (.iconst 4, 1) := by decide +kernel
theorem dX7_longAt_12 : decode cX7_longAt 12 = .ok (.iadd, 1) := by decide +kernel
theorem dX7_longAt_13 : decode cX7_longAt 13 = .ok (.invokestatic 118, 3) := by decide +kernel
theorem dX7_longAt_16 : decode cX7_longAt 16 = .ok (.i2l, 1) := by decide +kernel
theorem dX7_longAt_17 : decode cX7_longAt 17 = .ok (.ldc2_w 98, 3) := by decide +kernel
theorem dX7_longAt_20 : decode cX7_longAt 20 = .ok (.land, 1) := by decide +kernel
theorem dX7_longAt_21 : decode cX7_longAt 21 = .ok (.lor, 1) := by decide +kernel
theorem dX7_longAt_22 : decode cX7_longAt 22 = .ok (.lreturn, 1) := by decide +kernel
theorem dX7_putTwo_0 : decode cX7_putTwo 0 = .ok (.aload_n 0, 1) := by decide +kernel
theorem dX7_putTwo_1 : decode cX7_putTwo 1 = .ok (.iload_n 1, 1) := by decide +kernel
theorem dX7_putTwo_2 : decode cX7_putTwo 2 = .ok (.iload_n 2, 1) := by decide +kernel
theorem dX7_putTwo_3 : decode cX7_putTwo 3 = .ok (.bipush 8, 2) := by decide +kernel
theorem dX7_putTwo_5 : decode cX7_putTwo 5 = .ok (.ishr, 1) := by decide +kernel
theorem dX7_putTwo_6 : decode cX7_putTwo 6 = .ok (.i2b, 1) := by decide +kernel
theorem dX7_putTwo_7 : decode cX7_putTwo 7 = .ok (.bastore, 1) := by decide +kernel
theorem dX7_putTwo_8 : decode cX7_putTwo 8 = .ok (.aload_n 0, 1) := by decide +kernel
theorem dX7_putTwo_9 : decode cX7_putTwo 9 = .ok (.iload_n 1, 1) := by decide +kernel
theorem dX7_putTwo_10 : decode cX7_putTwo 10 = .ok (.iconst 1, 1) := by decide +kernel
theorem dX7_putTwo_11 : decode cX7_putTwo 11 = .ok (.iadd, 1) := by decide +kernel
theorem dX7_putTwo_12 : decode cX7_putTwo 12 = .ok (.iload_n 2, 1) := by decide +kernel
theorem dX7_putTwo_13 : decode cX7_putTwo 13 = .ok (.i2b, 1) := by decide +kernel
theorem dX7_putTwo_14 : decode cX7_putTwo 14 = .ok (.bastore, 1) := by decide +kernel
theorem dX7_putTwo_15 : decode cX7_putTwo 15 = .ok (.return_, 1) := by decide +kernel
theorem dX7_putInt_0 : decode cX7_putInt 0 = .ok (.aload_n 0, 1) := by decide +kernel
theorem dX7_putInt_1 : decode cX7_putInt 1 = .ok (.iload_n 1, 1) := by decide +kernel
theorem dX7_putInt_2 : decode cX7_putInt 2 = .ok (.iload_n 2, 1) := by decide +kernel
theorem dX7_putInt_3 : decode cX7_putInt 3 = .ok (.bipush 16, 2) := by decide +kernel
theorem dX7_putInt_5 : decode cX7_putInt 5 = .ok (.iushr, 1) := by decide +kernel
theorem dX7_putInt_6 : decode cX7_putInt 6 = .ok (.invokestatic 121, 3) := by decide +kernel
theorem dX7_putInt_9 : decode cX7_putInt 9 = .ok (.aload_n 0, 1) := by decide +kernel
theorem dX7_putInt_10 : decode cX7_putInt 10 = .ok (.iload_n 1, 1) := by decide +kernel
theorem dX7_putInt_11 : decode cX7_putInt 11 = .ok (.iconst 2, 1) := by decide +kernel
theorem dX7_putInt_12 : decode cX7_putInt 12 = .ok (.iadd, 1) := by decide +kernel
theorem dX7_putInt_13 : decode cX7_putInt 13 = .ok (.iload_n 2, 1) := by decide +kernel
theorem dX7_putInt_14 : decode cX7_putInt 14 = .ok (.invokestatic 121, 3) := by decide +kernel
theorem dX7_putInt_17 : decode cX7_putInt 17 = .ok (.return_, 1) := by decide +kernel
theorem dX7_putLong_0 : decode cX7_putLong 0 = .ok (.aload_n 0, 1) := by decide +kernel
theorem dX7_putLong_1 : decode cX7_putLong 1 = .ok (.iload_n 1, 1) := by decide +kernel
theorem dX7_putLong_2 : decode cX7_putLong 2 = .ok (.lload_n 2, 1) := by decide +kernel
theorem dX7_putLong_3 : decode cX7_putLong 3 = .ok (.bipush 32, 2) := by decide +kernel
theorem dX7_putLong_5 : decode cX7_putLong 5 = .ok (.lshr, 1) := by decide +kernel
theorem dX7_putLong_6 : decode cX7_putLong 6 = .ok (.l2i, 1) := by decide +kernel
theorem dX7_putLong_7 : decode cX7_putLong 7 = .ok (.invokestatic 125, 3) := by decide +kernel
theorem dX7_putLong_10 : decode cX7_putLong 10 = .ok (.aload_n 0, 1) := by decide +kernel
theorem dX7_putLong_11 : decode cX7_putLong 11 = .ok (.iload_n 1, 1) := by decide +kernel
theorem dX7_putLong_12 : decode cX7_putLong 12 = .ok (.iconst 4, 1) := by decide +kernel
theorem dX7_putLong_13 : decode cX7_putLong 13 = .ok (.iadd, 1) := by decide +kernel
theorem dX7_putLong_14 : decode cX7_putLong 14 = .ok (.lload_n 2, 1) := by decide +kernel
theorem dX7_putLong_15 : decode cX7_putLong 15 = .ok (.l2i, 1) := by decide +kernel
theorem dX7_putLong_16 : decode cX7_putLong 16 = .ok (.invokestatic 125, 3) := by decide +kernel
theorem dX7_putLong_19 : decode cX7_putLong 19 = .ok (.return_, 1) := by decide +kernel
theorem dX7_more_0 : decode cX7_more 0 = .ok (.aload_n 0, 1) := by decide +kernel
theorem dX7_more_1 : decode cX7_more 1 = .ok (.getfield 128, 3) := by decide +kernel
theorem dX7_more_4 : decode cX7_more 4 = .ok (.istore_n 2, 1) := by decide +kernel
theorem dX7_more_5 : decode cX7_more 5 = .ok (.iconst 0, 1) := by decide +kernel
theorem dX7_more_6 : decode cX7_more 6 = .ok (.istore_n 3, 1) := by decide +kernel
theorem dX7_more_7 : decode cX7_more 7 = .ok (.iload_n 3, 1) := by decide +kernel
theorem dX7_more_8 : decode cX7_more 8 = .ok (.iload_n 1, 1) := by decide +kernel
theorem dX7_more_9 : decode cX7_more 9 = .ok (.if_icmp .ge 18, 3) := by decide +kernel
theorem dX7_more_12 : decode cX7_more 12 = .ok (.aload_n 0, 1) := by decide +kernel
theorem dX7_more_13 : decode cX7_more 13 = .ok (.getfield 52, 3) := by decide +kernel
theorem dX7_more_16 : decode cX7_more 16 = .ok (.iload_n 2, 1) := by decide +kernel
theorem dX7_more_17 : decode cX7_more 17 = .ok (.iload_n 3, 1) := by decide +kernel
theorem dX7_more_18 : decode cX7_more 18 = .ok (.iadd, 1) := by decide +kernel
theorem dX7_more_19 : decode cX7_more 19 = .ok (.iconst 0, 1) := by decide +kernel
theorem dX7_more_20 : decode cX7_more 20 = .ok (.bastore, 1) := by decide +kernel
theorem dX7_more_21 : decode cX7_more 21 = .ok (.iinc 3 1, 3) := by decide +kernel
theorem dX7_more_24 : decode cX7_more 24 = .ok (.goto (-17), 3) := by decide +kernel
theorem dX7_more_27 : decode cX7_more 27 = .ok (.aload_n 0, 1) := by decide +kernel
theorem dX7_more_28 : decode cX7_more 28 = .ok (.dup, 1) := by decide +kernel
theorem dX7_more_29 : decode cX7_more 29 = .ok (.getfield 128, 3) := by decide +kernel
theorem dX7_more_32 : decode cX7_more 32 = .ok (.iload_n 1, 1) := by decide +kernel
theorem dX7_more_33 : decode cX7_more 33 = .ok (.iadd, 1) := by decide +kernel
theorem dX7_more_34 : decode cX7_more 34 = .ok (.putfield 128, 3) := by decide +kernel
theorem dX7_more_37 : decode cX7_more 37 = .ok (.iload_n 2, 1) := by decide +kernel
theorem dX7_more_38 : decode cX7_more 38 = .ok (.ireturn, 1) := by decide +kernel
theorem dX7_isPart_0 : decode cX7_isPart 0 = .ok (.aload_n 0, 1) := by decide +kernel
theorem dX7_isPart_1 : decode cX7_isPart 1 = .ok (.dup, 1) := by decide +kernel
theorem dX7_isPart_2 : decode cX7_isPart 2 = .ok (.getfield 131, 3) := by decide +kernel
theorem dX7_isPart_5 : decode cX7_isPart 5 = .ok (.iconst 1, 1) := by decide +kernel
theorem dX7_isPart_6 : decode cX7_isPart 6 = .ok (.iadd, 1) := by decide +kernel
theorem dX7_isPart_7 : decode cX7_isPart 7 = .ok (.putfield 131, 3) := by decide +kernel
theorem dX7_isPart_10 : decode cX7_isPart 10 = .ok (.aload_n 0, 1) := by decide +kernel
theorem dX7_isPart_11 : decode cX7_isPart 11 = .ok (.getfield 55, 3) := by decide +kernel
theorem dX7_isPart_14 : decode cX7_isPart 14 = .ok (.aload_n 0, 1) := by decide +kernel
theorem dX7_isPart_15 : decode cX7_isPart 15 = .ok (.getfield 131, 3) := by decide +kernel
theorem dX7_isPart_18 : decode cX7_isPart 18 = .ok (.aload_n 0, 1) := by decide +kernel
theorem dX7_isPart_19 : decode cX7_isPart 19 = .ok (.getfield 128, 3) := by decide +kernel
theorem dX7_isPart_22 : decode cX7_isPart 22 = .ok (.iastore, 1) := by decide +kernel
theorem dX7_isPart_23 : decode cX7_isPart 23 = .ok (.return_, 1) := by decide +kernel
theorem dX7_carry_0 : decode cX7_carry 0 = .ok (.iconst 0, 1) := by decide +kernel
theorem dX7_carry_1 : decode cX7_carry 1 = .ok (.istore 4, 2) := by decide +kernel
theorem dX7_carry_3 : decode cX7_carry 3 = .ok (.iload 4, 2) := by decide +kernel
theorem dX7_carry_5 : decode cX7_carry 5 = .ok (.iload_n 3, 1) := by decide +kernel
theorem dX7_carry_6 : decode cX7_carry 6 = .ok (.if_icmp .ge 22, 3) := by decide +kernel
theorem dX7_carry_9 : decode cX7_carry 9 = .ok (.aload_n 0, 1) := by decide +kernel
theorem dX7_carry_10 : decode cX7_carry 10 = .ok (.getfield 58, 3) := by decide +kernel
theorem dX7_carry_13 : decode cX7_carry 13 = .ok (.iload 4, 2) := by decide +kernel
theorem dX7_carry_15 : decode cX7_carry 15 = .ok (.aload_n 1, 1) := by decide +kernel
theorem dX7_carry_16 : decode cX7_carry 16 = .ok (.iload_n 2, 1) := by decide +kernel
theorem dX7_carry_17 : decode cX7_carry 17 = .ok (.iload 4, 2) := by decide +kernel
theorem dX7_carry_19 : decode cX7_carry 19 = .ok (.iadd, 1) := by decide +kernel
theorem dX7_carry_20 : decode cX7_carry 20 = .ok (.baload, 1) := by decide +kernel
theorem dX7_carry_21 : decode cX7_carry 21 = .ok (.bastore, 1) := by decide +kernel
theorem dX7_carry_22 : decode cX7_carry 22 = .ok (.iinc 4 1, 3) := by decide +kernel
theorem dX7_carry_25 : decode cX7_carry 25 = .ok (.goto (-22), 3) := by decide +kernel
theorem dX7_carry_28 : decode cX7_carry 28 = .ok (.aload_n 0, 1) := by decide +kernel
theorem dX7_carry_29 : decode cX7_carry 29 = .ok (.iload_n 3, 1) := by decide +kernel
theorem dX7_carry_30 : decode cX7_carry 30 = .ok (.putfield 134, 3) := by decide +kernel
theorem dX7_carry_33 : decode cX7_carry 33 = .ok (.return_, 1) := by decide +kernel
theorem dX7_imagesOf_0 : decode cX7_imagesOf 0 = .ok (.aload_n 0, 1) := by decide +kernel
theorem dX7_imagesOf_1 : decode cX7_imagesOf 1 = .ok (.iload_n 1, 1) := by decide +kernel
theorem dX7_imagesOf_2 : decode cX7_imagesOf 2 = .ok (.putfield 137, 3) := by decide +kernel
theorem dX7_imagesOf_5 : decode cX7_imagesOf 5 = .ok (.aload_n 0, 1) := by decide +kernel
theorem dX7_imagesOf_6 : decode cX7_imagesOf 6 = .ok (.iload_n 2, 1) := by decide +kernel
theorem dX7_imagesOf_7 : decode cX7_imagesOf 7 = .ok (.putfield 140, 3) := by decide +kernel
theorem dX7_imagesOf_10 : decode cX7_imagesOf 10 = .ok (.aload_n 0, 1) := by decide +kernel
theorem dX7_imagesOf_11 : decode cX7_imagesOf 11 = .ok (.iload_n 1, 1) := by decide +kernel
theorem dX7_imagesOf_12 : decode cX7_imagesOf 12 = .ok (.invokevirtual 87, 3) := by decide +kernel
theorem dX7_imagesOf_15 : decode cX7_imagesOf 15 = .ok (.aload_n 0, 1) := by decide +kernel
theorem dX7_imagesOf_16 : decode cX7_imagesOf 16 = .ok (.aload_n 0, 1) := by decide +kernel
theorem dX7_imagesOf_17 : decode cX7_imagesOf 17 = .ok (.getfield 78, 3) := by decide +kernel
theorem dX7_imagesOf_20 : decode cX7_imagesOf 20 = .ok (.putfield 143, 3) := by decide +kernel
theorem dX7_imagesOf_23 : decode cX7_imagesOf 23 = .ok (.aload_n 0, 1) := by decide +kernel
theorem dX7_imagesOf_24 : decode cX7_imagesOf 24 = .ok (.aload_n 0, 1) := by decide +kernel
theorem dX7_imagesOf_25 : decode cX7_imagesOf 25 = .ok (.getfield 81, 3) := by decide +kernel
theorem dX7_imagesOf_28 : decode cX7_imagesOf 28 = .ok (.putfield 146, 3) := by decide +kernel
theorem dX7_imagesOf_31 : decode cX7_imagesOf 31 = .ok (.aload_n 0, 1) := by decide +kernel
theorem dX7_imagesOf_32 : decode cX7_imagesOf 32 = .ok (.iload_n 2, 1) := by decide +kernel
theorem dX7_imagesOf_33 : decode cX7_imagesOf 33 = .ok (.invokevirtual 87, 3) := by decide +kernel
theorem dX7_imagesOf_36 : decode cX7_imagesOf 36 = .ok (.aload_n 0, 1) := by decide +kernel
theorem dX7_imagesOf_37 : decode cX7_imagesOf 37 = .ok (.aload_n 0, 1) := by decide +kernel
theorem dX7_imagesOf_38 : decode cX7_imagesOf 38 = .ok (.getfield 78, 3) := by decide +kernel
theorem dX7_imagesOf_41 : decode cX7_imagesOf 41 = .ok (.putfield 149, 3) := by decide +kernel
theorem dX7_imagesOf_44 : decode cX7_imagesOf 44 = .ok (.aload_n 0, 1) := by decide +kernel
theorem dX7_imagesOf_45 : decode cX7_imagesOf 45 = .ok (.aload_n 0, 1) := by decide +kernel
theorem dX7_imagesOf_46 : decode cX7_imagesOf 46 = .ok (.getfield 81, 3) := by decide +kernel
theorem dX7_imagesOf_49 : decode cX7_imagesOf 49 = .ok (.putfield 152, 3) := by decide +kernel
theorem dX7_imagesOf_52 : decode cX7_imagesOf 52 = .ok (.aload_n 0, 1) := by decide +kernel
theorem dX7_imagesOf_53 : decode cX7_imagesOf 53 = .ok (.iload_n 1, 1) := by decide +kernel
theorem dX7_imagesOf_54 : decode cX7_imagesOf 54 = .ok (.invokevirtual 90, 3) := by decide +kernel
theorem dX7_imagesOf_57 : decode cX7_imagesOf 57 = .ok (.ifCond .eq 15, 3) := by decide +kernel
theorem dX7_imagesOf_60 : decode cX7_imagesOf 60 = .ok (.aload_n 0, 1) := by decide +kernel
theorem dX7_imagesOf_61 : decode cX7_imagesOf 61 = .ok (.iload_n 2, 1) := by decide +kernel
theorem dX7_imagesOf_62 : decode cX7_imagesOf 62 = .ok (.invokevirtual 90, 3) := by decide +kernel
theorem dX7_imagesOf_65 : decode cX7_imagesOf 65 = .ok (.ifCond .eq 7, 3) := by decide +kernel
theorem dX7_imagesOf_68 : decode cX7_imagesOf 68 = .ok (.iconst 1, 1) := by decide +kernel
theorem dX7_imagesOf_69 : decode cX7_imagesOf 69 = .ok (.goto 4, 3) := by decide +kernel
theorem dX7_imagesOf_72 : decode cX7_imagesOf 72 = .ok (.iconst 0, 1) := by decide +kernel
theorem dX7_imagesOf_73 : decode cX7_imagesOf 73 = .ok (.ireturn, 1) := by decide +kernel
theorem dX7_addressesOf_0 : decode cX7_addressesOf 0 = .ok (.aload_n 0, 1) := by decide +kernel
theorem dX7_addressesOf_1 : decode cX7_addressesOf 1 = .ok (.aload_n 1, 1) := by decide +kernel
theorem dX7_addressesOf_2 : decode cX7_addressesOf 2 = .ok (.iload_n 2, 1) := by decide +kernel
theorem dX7_addressesOf_3 : decode cX7_addressesOf 3 = .ok (.bipush 8, 2) := by decide +kernel
theorem dX7_addressesOf_5 : decode cX7_addressesOf 5 = .ok (.iadd, 1) := by decide +kernel
theorem dX7_addressesOf_6 : decode cX7_addressesOf 6 = .ok (.invokestatic 155, 3) := by decide +kernel
theorem dX7_addressesOf_9 : decode cX7_addressesOf 9 = .ok (.putfield 143, 3) := by decide +kernel
theorem dX7_addressesOf_12 : decode cX7_addressesOf 12 = .ok (.aload_n 0, 1) := by decide +kernel
theorem dX7_addressesOf_13 : decode cX7_addressesOf 13 = .ok (.aload_n 1, 1) := by decide +kernel
theorem dX7_addressesOf_14 : decode cX7_addressesOf 14 = .ok (.iload_n 2, 1) := by decide +kernel
theorem dX7_addressesOf_15 : decode cX7_addressesOf 15 = .ok (.bipush 16, 2) := by decide +kernel
theorem dX7_addressesOf_17 : decode cX7_addressesOf 17 = .ok (.iadd, 1) := by decide +kernel
theorem dX7_addressesOf_18 : decode cX7_addressesOf 18 = .ok (.invokestatic 155, 3) := by decide +kernel
theorem dX7_addressesOf_21 : decode cX7_addressesOf 21 = .ok (.putfield 146, 3) := by decide +kernel
theorem dX7_addressesOf_24 : decode cX7_addressesOf 24 = .ok (.aload_n 0, 1) := by decide +kernel
theorem dX7_addressesOf_25 : decode cX7_addressesOf 25 = .ok (.aload_n 1, 1) := by decide +kernel
theorem dX7_addressesOf_26 : decode cX7_addressesOf 26 = .ok (.iload_n 2, 1) := by decide +kernel
theorem dX7_addressesOf_27 : decode cX7_addressesOf 27 = .ok (.bipush 24, 2) := by decide +kernel
theorem dX7_addressesOf_29 : decode cX7_addressesOf 29 = .ok (.iadd, 1) := by decide +kernel
theorem dX7_addressesOf_30 : decode cX7_addressesOf 30 = .ok (.invokestatic 155, 3) := by decide +kernel
theorem dX7_addressesOf_33 : decode cX7_addressesOf 33 = .ok (.putfield 149, 3) := by decide +kernel
theorem dX7_addressesOf_36 : decode cX7_addressesOf 36 = .ok (.aload_n 0, 1) := by decide +kernel
theorem dX7_addressesOf_37 : decode cX7_addressesOf 37 = .ok (.aload_n 1, 1) := by decide +kernel
theorem dX7_addressesOf_38 : decode cX7_addressesOf 38 = .ok (.iload_n 2, 1) := by decide +kernel
theorem dX7_addressesOf_39 : decode cX7_addressesOf 39 = .ok (.bipush 32, 2) := by decide +kernel
theorem dX7_addressesOf_41 : decode cX7_addressesOf 41 = .ok (.iadd, 1) := by decide +kernel
theorem dX7_addressesOf_42 : decode cX7_addressesOf 42 = .ok (.invokestatic 155, 3) := by decide +kernel
theorem dX7_addressesOf_45 : decode cX7_addressesOf 45 = .ok (.putfield 152, 3) := by decide +kernel
theorem dX7_addressesOf_48 : decode cX7_addressesOf 48 = .ok (.aload_n 0, 1) := by decide +kernel
theorem dX7_addressesOf_49 : decode cX7_addressesOf 49 = .ok (.aload_n 0, 1) := by decide +kernel
theorem dX7_addressesOf_50 : decode cX7_addressesOf 50 = .ok (.getfield 143, 3) := by decide +kernel
theorem dX7_addressesOf_53 : decode cX7_addressesOf 53 = .ok (.aload_n 0, 1) := by decide +kernel
theorem dX7_addressesOf_54 : decode cX7_addressesOf 54 = .ok (.getfield 146, 3) := by decide +kernel
theorem dX7_addressesOf_57 : decode cX7_addressesOf 57 = .ok (.invokevirtual 94, 3) := by decide +kernel
theorem dX7_addressesOf_60 : decode cX7_addressesOf 60 = .ok (.istore_n 3, 1) := by decide +kernel
theorem dX7_addressesOf_61 : decode cX7_addressesOf 61 = .ok (.aload_n 0, 1) := by decide +kernel
theorem dX7_addressesOf_62 : decode cX7_addressesOf 62 = .ok (.aload_n 0, 1) := by decide +kernel
theorem dX7_addressesOf_63 : decode cX7_addressesOf 63 = .ok (.getfield 84, 3) := by decide +kernel
theorem dX7_addressesOf_66 : decode cX7_addressesOf 66 = .ok (.putfield 137, 3) := by decide +kernel
theorem dX7_addressesOf_69 : decode cX7_addressesOf 69 = .ok (.aload_n 0, 1) := by decide +kernel
theorem dX7_addressesOf_70 : decode cX7_addressesOf 70 = .ok (.aload_n 0, 1) := by decide +kernel
theorem dX7_addressesOf_71 : decode cX7_addressesOf 71 = .ok (.getfield 149, 3) := by decide +kernel
theorem dX7_addressesOf_74 : decode cX7_addressesOf 74 = .ok (.aload_n 0, 1) := by decide +kernel
theorem dX7_addressesOf_75 : decode cX7_addressesOf 75 = .ok (.getfield 152, 3) := by decide +kernel
theorem dX7_addressesOf_78 : decode cX7_addressesOf 78 = .ok (.invokevirtual 94, 3) := by decide +kernel
theorem dX7_addressesOf_81 : decode cX7_addressesOf 81 = .ok (.istore 4, 2) := by decide +kernel
theorem dX7_addressesOf_83 : decode cX7_addressesOf 83 = .ok (.aload_n 0, 1) := by decide +kernel
theorem dX7_addressesOf_84 : decode cX7_addressesOf 84 = .ok (.aload_n 0, 1) := by decide +kernel
theorem dX7_addressesOf_85 : decode cX7_addressesOf 85 = .ok (.getfield 84, 3) := by decide +kernel
theorem dX7_addressesOf_88 : decode cX7_addressesOf 88 = .ok (.putfield 140, 3) := by decide +kernel
theorem dX7_addressesOf_91 : decode cX7_addressesOf 91 = .ok (.iload_n 3, 1) := by decide +kernel
theorem dX7_addressesOf_92 : decode cX7_addressesOf 92 = .ok (.ifCond .eq 12, 3) := by decide +kernel
theorem dX7_addressesOf_95 : decode cX7_addressesOf 95 = .ok (.iload 4, 2) := by decide +kernel
theorem dX7_addressesOf_97 : decode cX7_addressesOf 97 = .ok (.ifCond .eq 7, 3) := by decide +kernel
theorem dX7_addressesOf_100 : decode cX7_addressesOf 100 = .ok (.iconst 1, 1) := by decide +kernel
theorem dX7_addressesOf_101 : decode cX7_addressesOf 101 = .ok (.goto 4, 3) := by decide +kernel
theorem dX7_addressesOf_104 : decode cX7_addressesOf 104 = .ok (.iconst 0, 1) := by decide +kernel
theorem dX7_addressesOf_105 : decode cX7_addressesOf 105 = .ok (.ireturn, 1) := by decide +kernel
theorem dX7_images_0 : decode cX7_images 0 = .ok (.aload_n 0, 1) := by decide +kernel
theorem dX7_images_1 : decode cX7_images 1 = .ok (.aload_n 0, 1) := by decide +kernel
theorem dX7_images_2 : decode cX7_images 2 = .ok (.getfield 143, 3) := by decide +kernel
theorem dX7_images_5 : decode cX7_images 5 = .ok (.iload_n 1, 1) := by decide +kernel
theorem dX7_images_6 : decode cX7_images 6 = .ok (.invokevirtual 159, 3) := by decide +kernel
theorem dX7_images_9 : decode cX7_images 9 = .ok (.aload_n 0, 1) := by decide +kernel
theorem dX7_images_10 : decode cX7_images 10 = .ok (.aload_n 0, 1) := by decide +kernel
theorem dX7_images_11 : decode cX7_images 11 = .ok (.getfield 146, 3) := by decide +kernel
theorem dX7_images_14 : decode cX7_images 14 = .ok (.iload_n 1, 1) := by decide +kernel
theorem dX7_images_15 : decode cX7_images 15 = .ok (.invokevirtual 159, 3) := by decide +kernel
theorem dX7_images_18 : decode cX7_images 18 = .ok (.aload_n 0, 1) := by decide +kernel
theorem dX7_images_19 : decode cX7_images 19 = .ok (.aload_n 0, 1) := by decide +kernel
theorem dX7_images_20 : decode cX7_images 20 = .ok (.getfield 149, 3) := by decide +kernel
theorem dX7_images_23 : decode cX7_images 23 = .ok (.iload_n 1, 1) := by decide +kernel
theorem dX7_images_24 : decode cX7_images 24 = .ok (.invokevirtual 159, 3) := by decide +kernel
theorem dX7_images_27 : decode cX7_images 27 = .ok (.aload_n 0, 1) := by decide +kernel
theorem dX7_images_28 : decode cX7_images 28 = .ok (.aload_n 0, 1) := by decide +kernel
theorem dX7_images_29 : decode cX7_images 29 = .ok (.getfield 152, 3) := by decide +kernel
theorem dX7_images_32 : decode cX7_images 32 = .ok (.iload_n 1, 1) := by decide +kernel
theorem dX7_images_33 : decode cX7_images 33 = .ok (.invokevirtual 159, 3) := by decide +kernel
theorem dX7_images_36 : decode cX7_images 36 = .ok (.return_, 1) := by decide +kernel
theorem dX7_addresses_0 : decode cX7_addresses 0 = .ok (.aload_n 0, 1) := by decide +kernel
theorem dX7_addresses_1 : decode cX7_addresses 1 = .ok (.aload_n 0, 1) := by decide +kernel
theorem dX7_addresses_2 : decode cX7_addresses 2 = .ok (.getfield 137, 3) := by decide +kernel
theorem dX7_addresses_5 : decode cX7_addresses 5 = .ok (.iload_n 1, 1) := by decide +kernel
theorem dX7_addresses_6 : decode cX7_addresses 6 = .ok (.invokevirtual 163, 3) := by decide +kernel
theorem dX7_addresses_9 : decode cX7_addresses 9 = .ok (.aload_n 0, 1) := by decide +kernel
theorem dX7_addresses_10 : decode cX7_addresses 10 = .ok (.aload_n 0, 1) := by decide +kernel
theorem dX7_addresses_11 : decode cX7_addresses 11 = .ok (.getfield 140, 3) := by decide +kernel
theorem dX7_addresses_14 : decode cX7_addresses 14 = .ok (.iload_n 1, 1) := by decide +kernel
theorem dX7_addresses_15 : decode cX7_addresses 15 = .ok (.invokevirtual 163, 3) := by decide +kernel
theorem dX7_addresses_18 : decode cX7_addresses 18 = .ok (.return_, 1) := by decide +kernel
theorem dX7_pseudo_0 : decode cX7_pseudo 0 = .ok (.aload_n 0, 1) := by decide +kernel
theorem dX7_pseudo_1 : decode cX7_pseudo 1 = .ok (.iload_n 3, 1) := by decide +kernel
theorem dX7_pseudo_2 : decode cX7_pseudo 2 = .ok (.invokevirtual 167, 3) := by decide +kernel
theorem dX7_pseudo_5 : decode cX7_pseudo 5 = .ok (.aload_n 0, 1) := by decide +kernel
theorem dX7_pseudo_6 : decode cX7_pseudo 6 = .ok (.iload_n 1, 1) := by decide +kernel
theorem dX7_pseudo_7 : decode cX7_pseudo 7 = .ok (.iload_n 3, 1) := by decide +kernel
theorem dX7_pseudo_8 : decode cX7_pseudo 8 = .ok (.invokevirtual 163, 3) := by decide +kernel
theorem dX7_pseudo_11 : decode cX7_pseudo 11 = .ok (.aload_n 0, 1) := by decide +kernel
theorem dX7_pseudo_12 : decode cX7_pseudo 12 = .ok (.iload_n 2, 1) := by decide +kernel
theorem dX7_pseudo_13 : decode cX7_pseudo 13 = .ok (.iload_n 3, 1) := by decide +kernel
theorem dX7_pseudo_14 : decode cX7_pseudo 14 = .ok (.invokevirtual 163, 3) := by decide +kernel
theorem dX7_pseudo_17 : decode cX7_pseudo 17 = .ok (.return_, 1) := by decide +kernel
theorem dX7_adjust_0 : decode cX7_adjust 0 = .ok (.aload_n 0, 1) := by decide +kernel
theorem dX7_adjust_1 : decode cX7_adjust 1 = .ok (.lconst 0, 1) := by decide +kernel
theorem dX7_adjust_2 : decode cX7_adjust 2 = .ok (.putfield 102, 3) := by decide +kernel
theorem dX7_adjust_5 : decode cX7_adjust 5 = .ok (.aload_n 0, 1) := by decide +kernel
theorem dX7_adjust_6 : decode cX7_adjust 6 = .ok (.aload_n 1, 1) := by decide +kernel
theorem dX7_adjust_7 : decode cX7_adjust 7 = .ok (.iload_n 2, 1) := by decide +kernel
theorem dX7_adjust_8 : decode cX7_adjust 8 = .ok (.invokestatic 115, 3) := by decide +kernel
theorem dX7_adjust_11 : decode cX7_adjust 11 = .ok (.invokevirtual 171, 3) := by decide +kernel
theorem dX7_adjust_14 : decode cX7_adjust 14 = .ok (.iload 4, 2) := by decide +kernel
theorem dX7_adjust_16 : decode cX7_adjust 16 = .ok (.ifCond .eq 16, 3) := by decide +kernel
theorem dX7_adjust_19 : decode cX7_adjust 19 = .ok (.aload_n 0, 1) := by decide +kernel
theorem dX7_adjust_20 : decode cX7_adjust 20 = .ok (.iconst 1, 1) := by decide +kernel
theorem dX7_adjust_21 : decode cX7_adjust 21 = .ok (.invokevirtual 174, 3) := by decide +kernel
theorem dX7_adjust_24 : decode cX7_adjust 24 = .ok (.aload_n 0, 1) := by decide +kernel
theorem dX7_adjust_25 : decode cX7_adjust 25 = .ok (.iconst 0, 1) := by decide +kernel
theorem dX7_adjust_26 : decode cX7_adjust 26 = .ok (.invokevirtual 167, 3) := by decide +kernel
theorem dX7_adjust_29 : decode cX7_adjust 29 = .ok (.goto 13, 3) := by decide +kernel
theorem dX7_adjust_32 : decode cX7_adjust 32 = .ok (.aload_n 0, 1) := by decide +kernel
theorem dX7_adjust_33 : decode cX7_adjust 33 = .ok (.iconst 1, 1) := by decide +kernel
theorem dX7_adjust_34 : decode cX7_adjust 34 = .ok (.invokevirtual 167, 3) := by decide +kernel
theorem dX7_adjust_37 : decode cX7_adjust 37 = .ok (.aload_n 0, 1) := by decide +kernel
theorem dX7_adjust_38 : decode cX7_adjust 38 = .ok (.iconst 0, 1) := by decide +kernel
theorem dX7_adjust_39 : decode cX7_adjust 39 = .ok (.invokevirtual 174, 3) := by decide +kernel
theorem dX7_adjust_42 : decode cX7_adjust 42 = .ok (.aload_n 0, 1) := by decide +kernel
theorem dX7_adjust_43 : decode cX7_adjust 43 = .ok (.invokevirtual 177, 3) := by decide +kernel
theorem dX7_adjust_46 : decode cX7_adjust 46 = .ok (.istore 5, 2) := by decide +kernel
theorem dX7_adjust_48 : decode cX7_adjust 48 = .ok (.aload_n 1, 1) := by decide +kernel
theorem dX7_adjust_49 : decode cX7_adjust 49 = .ok (.iload_n 2, 1) := by decide +kernel
theorem dX7_adjust_50 : decode cX7_adjust 50 = .ok (.iload_n 3, 1) := by decide +kernel
theorem dX7_adjust_51 : decode cX7_adjust 51 = .ok (.bipush 17, 2) := by decide +kernel
theorem dX7_adjust_53 : decode cX7_adjust 53 = .ok (.if_icmp .ne 13, 3) := by decide +kernel
theorem dX7_adjust_56 : decode cX7_adjust 56 = .ok (.iload 5, 2) := by decide +kernel
theorem dX7_adjust_58 : decode cX7_adjust 58 = .ok (.ifCond .ne 8, 3) := by decide +kernel
theorem dX7_adjust_61 : decode cX7_adjust 61 = .ok (.ldc 107, 2) := by decide +kernel
theorem dX7_adjust_63 : decode cX7_adjust 63 = .ok (.goto 5, 3) := by decide +kernel
theorem dX7_adjust_66 : decode cX7_adjust 66 = .ok (.iload 5, 2) := by decide +kernel
theorem dX7_adjust_68 : decode cX7_adjust 68 = .ok (.invokestatic 121, 3) := by decide +kernel
theorem dX7_adjust_71 : decode cX7_adjust 71 = .ok (.return_, 1) := by decide +kernel
theorem dX7_echo_0 : decode cX7_echo 0 = .ok (.aload_n 1, 1) := by decide +kernel
theorem dX7_echo_1 : decode cX7_echo 1 = .ok (.iload_n 2, 1) := by decide +kernel
theorem dX7_echo_2 : decode cX7_echo 2 = .ok (.invokestatic 115, 3) := by decide +kernel
theorem dX7_echo_5 : decode cX7_echo 5 = .ok (.istore 5, 2) := by decide +kernel
theorem dX7_echo_7 : decode cX7_echo 7 = .ok (.aload_n 1, 1) := by decide +kernel
theorem dX7_echo_8 : decode cX7_echo 8 = .ok (.iload_n 2, 1) := by decide +kernel
theorem dX7_echo_9 : decode cX7_echo 9 = .ok (.iload 4, 2) := by decide +kernel
theorem dX7_echo_11 : decode cX7_echo 11 = .ok (.ifCond .eq 25, 3) := by decide +kernel
theorem dX7_echo_14 : decode cX7_echo 14 = .ok (.iload 5, 2) := by decide +kernel
theorem dX7_echo_16 : decode cX7_echo 16 = .ok (.bipush 8, 2) := by decide +kernel
theorem dX7_echo_18 : decode cX7_echo 18 = .ok (.ishr, 1) := by decide +kernel
theorem dX7_echo_19 : decode cX7_echo 19 = .ok (.bipush 8, 2) := by decide +kernel
theorem dX7_echo_21 : decode cX7_echo 21 = .ok (.if_icmp .ne 9, 3) := by decide +kernel
theorem dX7_echo_24 : decode cX7_echo 24 = .ok (.sipush 128, 3) := by decide +kernel
theorem dX7_echo_27 : decode cX7_echo 27 = .ok (.goto 26, 3) := by decide +kernel
theorem dX7_echo_30 : decode cX7_echo 30 = .ok (.sipush 129, 3) := by decide +kernel
theorem dX7_echo_33 : decode cX7_echo 33 = .ok (.goto 20, 3) := by decide +kernel
theorem dX7_echo_36 : decode cX7_echo 36 = .ok (.iload 5, 2) := by decide +kernel
theorem dX7_echo_38 : decode cX7_echo 38 = .ok (.bipush 8, 2) := by decide +kernel
theorem dX7_echo_40 : decode cX7_echo 40 = .ok (.ishr, 1) := by decide +kernel
theorem dX7_echo_41 : decode cX7_echo 41 = .ok (.sipush 128, 3) := by decide +kernel
theorem dX7_echo_44 : decode cX7_echo 44 = .ok (.if_icmp .ne 8, 3) := by decide +kernel
theorem dX7_echo_47 : decode cX7_echo 47 = .ok (.bipush 8, 2) := by decide +kernel
theorem dX7_echo_49 : decode cX7_echo 49 = .ok (.goto 4, 3) := by decide +kernel
theorem dX7_echo_52 : decode cX7_echo 52 = .ok (.iconst 0, 1) := by decide +kernel
theorem dX7_echo_53 : decode cX7_echo 53 = .ok (.i2b, 1) := by decide +kernel
theorem dX7_echo_54 : decode cX7_echo 54 = .ok (.bastore, 1) := by decide +kernel
theorem dX7_echo_55 : decode cX7_echo 55 = .ok (.aload_n 0, 1) := by decide +kernel
theorem dX7_echo_56 : decode cX7_echo 56 = .ok (.lconst 0, 1) := by decide +kernel
theorem dX7_echo_57 : decode cX7_echo 57 = .ok (.putfield 102, 3) := by decide +kernel
theorem dX7_echo_60 : decode cX7_echo 60 = .ok (.aload_n 0, 1) := by decide +kernel
theorem dX7_echo_61 : decode cX7_echo 61 = .ok (.aload_n 1, 1) := by decide +kernel
theorem dX7_echo_62 : decode cX7_echo 62 = .ok (.iload_n 2, 1) := by decide +kernel
theorem dX7_echo_63 : decode cX7_echo 63 = .ok (.iconst 2, 1) := by decide +kernel
theorem dX7_echo_64 : decode cX7_echo 64 = .ok (.iadd, 1) := by decide +kernel
theorem dX7_echo_65 : decode cX7_echo 65 = .ok (.invokestatic 115, 3) := by decide +kernel
theorem dX7_echo_68 : decode cX7_echo 68 = .ok (.invokevirtual 171, 3) := by decide +kernel
theorem dX7_echo_71 : decode cX7_echo 71 = .ok (.aload_n 0, 1) := by decide +kernel
theorem dX7_echo_72 : decode cX7_echo 72 = .ok (.iload 5, 2) := by decide +kernel
theorem dX7_echo_74 : decode cX7_echo 74 = .ok (.invokevirtual 171, 3) := by decide +kernel
theorem dX7_echo_77 : decode cX7_echo 77 = .ok (.iload 4, 2) := by decide +kernel
theorem dX7_echo_79 : decode cX7_echo 79 = .ok (.ifCond .ne 11, 3) := by decide +kernel
theorem dX7_echo_82 : decode cX7_echo 82 = .ok (.aload_n 0, 1) := by decide +kernel
theorem dX7_echo_83 : decode cX7_echo 83 = .ok (.iload_n 3, 1) := by decide +kernel
theorem dX7_echo_84 : decode cX7_echo 84 = .ok (.bipush 58, 2) := by decide +kernel
theorem dX7_echo_86 : decode cX7_echo 86 = .ok (.iconst 1, 1) := by decide +kernel
theorem dX7_echo_87 : decode cX7_echo 87 = .ok (.invokevirtual 181, 3) := by decide +kernel
theorem dX7_echo_90 : decode cX7_echo 90 = .ok (.aload_n 0, 1) := by decide +kernel
theorem dX7_echo_91 : decode cX7_echo 91 = .ok (.aload_n 1, 1) := by decide +kernel
theorem dX7_echo_92 : decode cX7_echo 92 = .ok (.iload_n 2, 1) := by decide +kernel
theorem dX7_echo_93 : decode cX7_echo 93 = .ok (.invokestatic 115, 3) := by decide +kernel
theorem dX7_echo_96 : decode cX7_echo 96 = .ok (.invokevirtual 108, 3) := by decide +kernel
theorem dX7_echo_99 : decode cX7_echo 99 = .ok (.iload 4, 2) := by decide +kernel
theorem dX7_echo_101 : decode cX7_echo 101 = .ok (.ifCond .eq 11, 3) := by decide +kernel
theorem dX7_echo_104 : decode cX7_echo 104 = .ok (.aload_n 0, 1) := by decide +kernel
theorem dX7_echo_105 : decode cX7_echo 105 = .ok (.iload_n 3, 1) := by decide +kernel
theorem dX7_echo_106 : decode cX7_echo 106 = .ok (.bipush 58, 2) := by decide +kernel
theorem dX7_echo_108 : decode cX7_echo 108 = .ok (.iconst 0, 1) := by decide +kernel
theorem dX7_echo_109 : decode cX7_echo 109 = .ok (.invokevirtual 181, 3) := by decide +kernel
theorem dX7_echo_112 : decode cX7_echo 112 = .ok (.aload_n 1, 1) := by decide +kernel
theorem dX7_echo_113 : decode cX7_echo 113 = .ok (.iload_n 2, 1) := by decide +kernel
theorem dX7_echo_114 : decode cX7_echo 114 = .ok (.iconst 2, 1) := by decide +kernel
theorem dX7_echo_115 : decode cX7_echo 115 = .ok (.iadd, 1) := by decide +kernel
theorem dX7_echo_116 : decode cX7_echo 116 = .ok (.aload_n 0, 1) := by decide +kernel
theorem dX7_echo_117 : decode cX7_echo 117 = .ok (.invokevirtual 177, 3) := by decide +kernel
theorem dX7_echo_120 : decode cX7_echo 120 = .ok (.invokestatic 121, 3) := by decide +kernel
theorem dX7_echo_123 : decode cX7_echo 123 = .ok (.return_, 1) := by decide +kernel
theorem dX7_sumAt_0 : decode cX7_sumAt 0 = .ok (.iload_n 0, 1) := by decide +kernel
theorem dX7_sumAt_1 : decode cX7_sumAt 1 = .ok (.bipush 17, 2) := by decide +kernel
theorem dX7_sumAt_3 : decode cX7_sumAt 3 = .ok (.if_icmp .ne 8, 3) := by decide +kernel
theorem dX7_sumAt_6 : decode cX7_sumAt 6 = .ok (.bipush 6, 2) := by decide +kernel
theorem dX7_sumAt_8 : decode cX7_sumAt 8 = .ok (.goto 5, 3) := by decide +kernel
theorem dX7_sumAt_11 : decode cX7_sumAt 11 = .ok (.bipush 16, 2) := by decide +kernel
theorem dX7_sumAt_13 : decode cX7_sumAt 13 = .ok (.ireturn, 1) := by decide +kernel
theorem dX7_tell_0 : decode cX7_tell 0 = .ok (.aload_n 0, 1) := by decide +kernel
theorem dX7_tell_1 : decode cX7_tell 1 = .ok (.getfield 48, 3) := by decide +kernel
theorem dX7_tell_4 : decode cX7_tell 4 = .ok (.iload_n 1, 1) := by decide +kernel
theorem dX7_tell_5 : decode cX7_tell 5 = .ok (.dup2, 1) := by decide +kernel
theorem dX7_tell_6 : decode cX7_tell 6 = .ok (.iaload, 1) := by decide +kernel
theorem dX7_tell_7 : decode cX7_tell 7 = .ok (.iconst 1, 1) := by decide +kernel
theorem dX7_tell_8 : decode cX7_tell 8 = .ok (.iadd, 1) := by decide +kernel
theorem dX7_tell_9 : decode cX7_tell 9 = .ok (.iastore, 1) := by decide +kernel
theorem dX7_tell_10 : decode cX7_tell 10 = .ok (.iload_n 1, 1) := by decide +kernel
theorem dX7_tell_11 : decode cX7_tell 11 = .ok (.ifCond .le 19, 3) := by decide +kernel
theorem dX7_tell_14 : decode cX7_tell 14 = .ok (.iload_n 1, 1) := by decide +kernel
theorem dX7_tell_15 : decode cX7_tell 15 = .ok (.bipush 10, 2) := by decide +kernel
theorem dX7_tell_17 : decode cX7_tell 17 = .ok (.if_icmp .ge 13, 3) := by decide +kernel
theorem dX7_tell_20 : decode cX7_tell 20 = .ok (.aload_n 0, 1) := by decide +kernel
theorem dX7_tell_21 : decode cX7_tell 21 = .ok (.iconst 0, 1) := by decide +kernel
theorem dX7_tell_22 : decode cX7_tell 22 = .ok (.putfield 131, 3) := by decide +kernel
theorem dX7_tell_25 : decode cX7_tell 25 = .ok (.aload_n 0, 1) := by decide +kernel
theorem dX7_tell_26 : decode cX7_tell 26 = .ok (.iconst 0, 1) := by decide +kernel
theorem dX7_tell_27 : decode cX7_tell 27 = .ok (.putfield 128, 3) := by decide +kernel
theorem dX7_tell_30 : decode cX7_tell 30 = .ok (.iload_n 1, 1) := by decide +kernel
theorem dX7_tell_31 : decode cX7_tell 31 = .ok (.ireturn, 1) := by decide +kernel
theorem dX7_begin_0 : decode cX7_begin 0 = .ok (.aload_n 0, 1) := by decide +kernel
theorem dX7_begin_1 : decode cX7_begin 1 = .ok (.iconst 0, 1) := by decide +kernel
theorem dX7_begin_2 : decode cX7_begin 2 = .ok (.putfield 61, 3) := by decide +kernel
theorem dX7_begin_5 : decode cX7_begin 5 = .ok (.aload_n 0, 1) := by decide +kernel
theorem dX7_begin_6 : decode cX7_begin 6 = .ok (.iconst 0, 1) := by decide +kernel
theorem dX7_begin_7 : decode cX7_begin 7 = .ok (.putfield 131, 3) := by decide +kernel
theorem dX7_begin_10 : decode cX7_begin 10 = .ok (.aload_n 0, 1) := by decide +kernel
theorem dX7_begin_11 : decode cX7_begin 11 = .ok (.iconst 0, 1) := by decide +kernel
theorem dX7_begin_12 : decode cX7_begin 12 = .ok (.putfield 128, 3) := by decide +kernel
theorem dX7_begin_15 : decode cX7_begin 15 = .ok (.aload_n 0, 1) := by decide +kernel
theorem dX7_begin_16 : decode cX7_begin 16 = .ok (.getfield 55, 3) := by decide +kernel
theorem dX7_begin_19 : decode cX7_begin 19 = .ok (.iconst 0, 1) := by decide +kernel
theorem dX7_begin_20 : decode cX7_begin 20 = .ok (.iconst 0, 1) := by decide +kernel
theorem dX7_begin_21 : decode cX7_begin 21 = .ok (.iastore, 1) := by decide +kernel
theorem dX7_begin_22 : decode cX7_begin 22 = .ok (.return_, 1) := by decide +kernel
theorem dX7_header4_0 : decode cX7_header4 0 = .ok (.aload_n 0, 1) := by decide +kernel
theorem dX7_header4_1 : decode cX7_header4 1 = .ok (.iconst 4, 1) := by decide +kernel
theorem dX7_header4_2 : decode cX7_header4 2 = .ok (.aload_n 0, 1) := by decide +kernel
theorem dX7_header4_3 : decode cX7_header4 3 = .ok (.getfield 7, 3) := by decide +kernel
theorem dX7_header4_6 : decode cX7_header4 6 = .ok (.iload_n 1, 1) := by decide +kernel
theorem dX7_header4_7 : decode cX7_header4 7 = .ok (.baload, 1) := by decide +kernel
theorem dX7_header4_8 : decode cX7_header4 8 = .ok (.bipush 15, 2) := by decide +kernel
theorem dX7_header4_10 : decode cX7_header4 10 = .ok (.iand, 1) := by decide +kernel
theorem dX7_header4_11 : decode cX7_header4 11 = .ok (.imul, 1) := by decide +kernel
theorem dX7_header4_12 : decode cX7_header4 12 = .ok (.putfield 185, 3) := by decide +kernel
theorem dX7_header4_15 : decode cX7_header4 15 = .ok (.aload_n 0, 1) := by decide +kernel
theorem dX7_header4_16 : decode cX7_header4 16 = .ok (.aload_n 0, 1) := by decide +kernel
theorem dX7_header4_17 : decode cX7_header4 17 = .ok (.getfield 7, 3) := by decide +kernel
theorem dX7_header4_20 : decode cX7_header4 20 = .ok (.iload_n 1, 1) := by decide +kernel
theorem dX7_header4_21 : decode cX7_header4 21 = .ok (.iconst 2, 1) := by decide +kernel
theorem dX7_header4_22 : decode cX7_header4 22 = .ok (.iadd, 1) := by decide +kernel
theorem dX7_header4_23 : decode cX7_header4 23 = .ok (.invokestatic 115, 3) := by decide +kernel
theorem dX7_header4_26 : decode cX7_header4 26 = .ok (.putfield 188, 3) := by decide +kernel
theorem dX7_header4_29 : decode cX7_header4 29 = .ok (.aload_n 0, 1) := by decide +kernel
theorem dX7_header4_30 : decode cX7_header4 30 = .ok (.bipush 8, 2) := by decide +kernel
theorem dX7_header4_32 : decode cX7_header4 32 = .ok (.aload_n 0, 1) := by decide +kernel
theorem dX7_header4_33 : decode cX7_header4 33 = .ok (.getfield 7, 3) := by decide +kernel
theorem dX7_header4_36 : decode cX7_header4 36 = .ok (.iload_n 1, 1) := by decide +kernel
theorem dX7_header4_37 : decode cX7_header4 37 = .ok (.bipush 6, 2) := by decide +kernel
theorem dX7_header4_39 : decode cX7_header4 39 = .ok (.iadd, 1) := by decide +kernel
theorem dX7_header4_40 : decode cX7_header4 40 = .ok (.invokestatic 115, 3) := by decide +kernel
theorem dX7_header4_43 : decode cX7_header4 43 = .ok (.sipush 8191, 3) := by decide +kernel
theorem dX7_header4_46 : decode cX7_header4 46 = .ok (.iand, 1) := by decide +kernel
theorem dX7_header4_47 : decode cX7_header4 47 = .ok (.imul, 1) := by decide +kernel
theorem dX7_header4_48 : decode cX7_header4 48 = .ok (.putfield 191, 3) := by decide +kernel
theorem dX7_header4_51 : decode cX7_header4 51 = .ok (.aload_n 0, 1) := by decide +kernel
theorem dX7_header4_52 : decode cX7_header4 52 = .ok (.aload_n 0, 1) := by decide +kernel
theorem dX7_header4_53 : decode cX7_header4 53 = .ok (.getfield 7, 3) := by decide +kernel
theorem dX7_header4_56 : decode cX7_header4 56 = .ok (.iload_n 1, 1) := by decide +kernel
theorem dX7_header4_57 : decode cX7_header4 57 = .ok (.bipush 6, 2) := by decide +kernel
theorem dX7_header4_59 : decode cX7_header4 59 = .ok (.iadd, 1) := by decide +kernel
theorem dX7_header4_60 : decode cX7_header4 60 = .ok (.baload, 1) := by decide +kernel
theorem dX7_header4_61 : decode cX7_header4 61 = .ok (.bipush 32, 2) := by decide +kernel
theorem dX7_header4_63 : decode cX7_header4 63 = .ok (.iand, 1) := by decide +kernel
theorem dX7_header4_64 : decode cX7_header4 64 = .ok (.ifCond .eq 7, 3) := by decide +kernel
theorem dX7_header4_67 : decode cX7_header4 67 = .ok (.iconst 1, 1) := by decide +kernel
theorem dX7_header4_68 : decode cX7_header4 68 = .ok (.goto 4, 3) := by decide +kernel
theorem dX7_header4_71 : decode cX7_header4 71 = .ok (.iconst 0, 1) := by decide +kernel
theorem dX7_header4_72 : decode cX7_header4 72 = .ok (.putfield 194, 3) := by decide +kernel
theorem dX7_header4_75 : decode cX7_header4 75 = .ok (.aload_n 0, 1) := by decide +kernel
theorem dX7_header4_76 : decode cX7_header4 76 = .ok (.aload_n 0, 1) := by decide +kernel
theorem dX7_header4_77 : decode cX7_header4 77 = .ok (.getfield 7, 3) := by decide +kernel
theorem dX7_header4_80 : decode cX7_header4 80 = .ok (.iload_n 1, 1) := by decide +kernel
theorem dX7_header4_81 : decode cX7_header4 81 = .ok (.bipush 9, 2) := by decide +kernel
theorem dX7_header4_83 : decode cX7_header4 83 = .ok (.iadd, 1) := by decide +kernel
theorem dX7_header4_84 : decode cX7_header4 84 = .ok (.invokestatic 111, 3) := by decide +kernel
theorem dX7_header4_87 : decode cX7_header4 87 = .ok (.putfield 197, 3) := by decide +kernel
theorem dX7_header4_90 : decode cX7_header4 90 = .ok (.return_, 1) := by decide +kernel
theorem dX7_isBarred4_0 : decode cX7_isBarred4 0 = .ok (.iload_n 0, 1) := by decide +kernel
theorem dX7_isBarred4_1 : decode cX7_isBarred4 1 = .ok (.ifCond .eq 38, 3) := by decide +kernel
theorem dX7_isBarred4_4 : decode cX7_isBarred4 4 = .ok (.iload_n 0, 1) := by decide +kernel
theorem dX7_isBarred4_5 : decode cX7_isBarred4 5 = .ok (.iconst 2, 1) := by decide +kernel
theorem dX7_isBarred4_6 : decode cX7_isBarred4 6 = .ok (.if_icmp .eq 33, 3) := by decide +kernel
theorem dX7_isBarred4_9 : decode cX7_isBarred4 9 = .ok (.iload_n 0, 1) := by decide +kernel
theorem dX7_isBarred4_10 : decode cX7_isBarred4 10 = .ok (.bipush 43, 2) := by decide +kernel
theorem dX7_isBarred4_12 : decode cX7_isBarred4 12 = .ok (.if_icmp .eq 27, 3) := by decide +kernel
theorem dX7_isBarred4_15 : decode cX7_isBarred4 15 = .ok (.iload_n 0, 1) := by decide +kernel
theorem dX7_isBarred4_16 : decode cX7_isBarred4 16 = .ok (.bipush 44, 2) := by decide +kernel
theorem dX7_isBarred4_18 : decode cX7_isBarred4 18 = .ok (.if_icmp .eq 21, 3) := by decide +kernel
theorem dX7_isBarred4_21 : decode cX7_isBarred4 21 = .ok (.iload_n 0, 1) := by decide +kernel
theorem dX7_isBarred4_22 : decode cX7_isBarred4 22 = .ok (.bipush 58, 2) := by decide +kernel
theorem dX7_isBarred4_24 : decode cX7_isBarred4 24 = .ok (.if_icmp .eq 15, 3) := by decide +kernel
theorem dX7_isBarred4_27 : decode cX7_isBarred4 27 = .ok (.iload_n 0, 1) := by decide +kernel
theorem dX7_isBarred4_28 : decode cX7_isBarred4 28 = .ok (.bipush 59, 2) := by decide +kernel
theorem dX7_isBarred4_30 : decode cX7_isBarred4 30 = .ok (.if_icmp .eq 9, 3) := by decide +kernel
theorem dX7_isBarred4_33 : decode cX7_isBarred4 33 = .ok (.iload_n 0, 1) := by decide +kernel
theorem dX7_isBarred4_34 : decode cX7_isBarred4 34 = .ok (.bipush 60, 2) := by decide +kernel
theorem dX7_isBarred4_36 : decode cX7_isBarred4 36 = .ok (.if_icmp .ne 7, 3) := by decide +kernel
theorem dX7_isBarred4_39 : decode cX7_isBarred4 39 = .ok (.iconst 1, 1) := by decide +kernel
theorem dX7_isBarred4_40 : decode cX7_isBarred4 40 = .ok (.goto 4, 3) := by decide +kernel
theorem dX7_isBarred4_43 : decode cX7_isBarred4 43 = .ok (.iconst 0, 1) := by decide +kernel
theorem dX7_isBarred4_44 : decode cX7_isBarred4 44 = .ok (.ireturn, 1) := by decide +kernel
theorem dX7_isBarred6_0 : decode cX7_isBarred6 0 = .ok (.iload_n 0, 1) := by decide +kernel
theorem dX7_isBarred6_1 : decode cX7_isBarred6 1 = .ok (.ifCond .eq 37, 3) := by decide +kernel
theorem dX7_isBarred6_4 : decode cX7_isBarred6 4 = .ok (.iload_n 0, 1) := by decide +kernel
theorem dX7_isBarred6_5 : decode cX7_isBarred6 5 = .ok (.iconst 1, 1) := by decide +kernel
theorem dX7_isBarred6_6 : decode cX7_isBarred6 6 = .ok (.if_icmp .eq 32, 3) := by decide +kernel
theorem dX7_isBarred6_9 : decode cX7_isBarred6 9 = .ok (.iload_n 0, 1) := by decide +kernel
theorem dX7_isBarred6_10 : decode cX7_isBarred6 10 = .ok (.iconst 2, 1) := by decide +kernel
theorem dX7_isBarred6_11 : decode cX7_isBarred6 11 = .ok (.if_icmp .eq 27, 3) := by decide +kernel
theorem dX7_isBarred6_14 : decode cX7_isBarred6 14 = .ok (.iload_n 0, 1) := by decide +kernel
theorem dX7_isBarred6_15 : decode cX7_isBarred6 15 = .ok (.bipush 43, 2) := by decide +kernel
theorem dX7_isBarred6_17 : decode cX7_isBarred6 17 = .ok (.if_icmp .eq 21, 3) := by decide +kernel
theorem dX7_isBarred6_20 : decode cX7_isBarred6 20 = .ok (.iload_n 0, 1) := by decide +kernel
theorem dX7_isBarred6_21 : decode cX7_isBarred6 21 = .ok (.bipush 44, 2) := by decide +kernel
theorem dX7_isBarred6_23 : decode cX7_isBarred6 23 = .ok (.if_icmp .eq 15, 3) := by decide +kernel
theorem dX7_isBarred6_26 : decode cX7_isBarred6 26 = .ok (.iload_n 0, 1) := by decide +kernel
theorem dX7_isBarred6_27 : decode cX7_isBarred6 27 = .ok (.bipush 59, 2) := by decide +kernel
theorem dX7_isBarred6_29 : decode cX7_isBarred6 29 = .ok (.if_icmp .eq 9, 3) := by decide +kernel
theorem dX7_isBarred6_32 : decode cX7_isBarred6 32 = .ok (.iload_n 0, 1) := by decide +kernel
theorem dX7_isBarred6_33 : decode cX7_isBarred6 33 = .ok (.bipush 60, 2) := by decide +kernel
theorem dX7_isBarred6_35 : decode cX7_isBarred6 35 = .ok (.if_icmp .ne 7, 3) := by decide +kernel
theorem dX7_isBarred6_38 : decode cX7_isBarred6 38 = .ok (.iconst 1, 1) := by decide +kernel
theorem dX7_isBarred6_39 : decode cX7_isBarred6 39 = .ok (.goto 4, 3) := by decide +kernel
theorem dX7_isBarred6_42 : decode cX7_isBarred6 42 = .ok (.iconst 0, 1) := by decide +kernel
theorem dX7_isBarred6_43 : decode cX7_isBarred6 43 = .ok (.ireturn, 1) := by decide +kernel
theorem dX7_optionsAreGood_0 : decode cX7_optionsAreGood 0 = .ok (.aload_n 0, 1) := by decide +kernel
theorem dX7_optionsAreGood_1 : decode cX7_optionsAreGood 1 = .ok (.iconst 0, 1) := by decide +kernel
theorem dX7_optionsAreGood_2 : decode cX7_optionsAreGood 2 = .ok (.putfield 200, 3) := by decide +kernel
theorem dX7_optionsAreGood_5 : decode cX7_optionsAreGood 5 = .ok (.bipush 20, 2) := by decide +kernel
theorem dX7_optionsAreGood_7 : decode cX7_optionsAreGood 7 = .ok (.istore_n 1, 1) := by decide +kernel
theorem dX7_optionsAreGood_8 : decode cX7_optionsAreGood 8 = .ok (.iload_n 1, 1) := by decide +kernel
theorem dX7_optionsAreGood_9 : decode cX7_optionsAreGood 9 = .ok (.aload_n 0, 1) := by decide +kernel
theorem dX7_optionsAreGood_10 : decode cX7_optionsAreGood 10 = .ok (.getfield 185, 3) := by decide +kernel
theorem dX7_optionsAreGood_13 : decode cX7_optionsAreGood 13 = .ok (.if_icmp .ge 117, 3) := by decide +kernel
theorem dX7_optionsAreGood_16 : decode cX7_optionsAreGood 16 = .ok (.aload_n 0, 1) := by decide +kernel
theorem dX7_optionsAreGood_17 : decode cX7_optionsAreGood 17 = .ok (.getfield 7, 3) := by decide +kernel
theorem dX7_optionsAreGood_20 : decode cX7_optionsAreGood 20 = .ok (.iload_n 1, 1) := by decide +kernel
theorem dX7_optionsAreGood_21 : decode cX7_optionsAreGood 21 = .ok (.baload, 1) := by decide +kernel
theorem dX7_optionsAreGood_22 : decode cX7_optionsAreGood 22 = .ok (.ifCond .eq 108, 3) := by decide +kernel
theorem dX7_optionsAreGood_25 : decode cX7_optionsAreGood 25 = .ok (.aload_n 0, 1) := by decide +kernel
theorem dX7_optionsAreGood_26 : decode cX7_optionsAreGood 26 = .ok (.getfield 7, 3) := by decide +kernel
theorem dX7_optionsAreGood_29 : decode cX7_optionsAreGood 29 = .ok (.iload_n 1, 1) := by decide +kernel
theorem dX7_optionsAreGood_30 : decode cX7_optionsAreGood 30 = .ok (.invokestatic 111, 3) := by decide +kernel
theorem dX7_optionsAreGood_33 : decode cX7_optionsAreGood 33 = .ok (.istore_n 2, 1) := by decide +kernel
theorem dX7_optionsAreGood_34 : decode cX7_optionsAreGood 34 = .ok (.iload_n 2, 1) := by decide +kernel
theorem dX7_optionsAreGood_35 : decode cX7_optionsAreGood 35 = .ok (.iconst 1, 1) := by decide +kernel
theorem dX7_optionsAreGood_36 : decode cX7_optionsAreGood 36 = .ok (.if_icmp .ne 9, 3) := by decide +kernel
theorem dX7_optionsAreGood_39 : decode cX7_optionsAreGood 39 = .ok (.iinc 1 1, 3) := by decide +kernel
theorem dX7_optionsAreGood_42 : decode cX7_optionsAreGood 42 = .ok (.goto (-34), 3) := by decide +kernel
theorem dX7_optionsAreGood_45 : decode cX7_optionsAreGood 45 = .ok (.iload_n 1, 1) := by decide +kernel
theorem dX7_optionsAreGood_46 : decode cX7_optionsAreGood 46 = .ok (.iconst 1, 1) := by decide +kernel
theorem dX7_optionsAreGood_47 : decode cX7_optionsAreGood 47 = .ok (.iadd, 1) := by decide +kernel
theorem dX7_optionsAreGood_48 : decode cX7_optionsAreGood 48 = .ok (.aload_n 0, 1) := by decide +kernel
theorem dX7_optionsAreGood_49 : decode cX7_optionsAreGood 49 = .ok (.getfield 185, 3) := by decide +kernel
theorem dX7_optionsAreGood_52 : decode cX7_optionsAreGood 52 = .ok (.if_icmp .lt 5, 3) := by decide +kernel
theorem dX7_optionsAreGood_55 : decode cX7_optionsAreGood 55 = .ok (.iconst 0, 1) := by decide +kernel
theorem dX7_optionsAreGood_56 : decode cX7_optionsAreGood 56 = .ok (.ireturn, 1) := by decide +kernel
theorem dX7_optionsAreGood_57 : decode cX7_optionsAreGood 57 = .ok (.aload_n 0, 1) := by decide +kernel
theorem dX7_optionsAreGood_58 : decode cX7_optionsAreGood 58 = .ok (.getfield 7, 3) := by decide +kernel
theorem dX7_optionsAreGood_61 : decode cX7_optionsAreGood 61 = .ok (.iload_n 1, 1) := by decide +kernel
theorem dX7_optionsAreGood_62 : decode cX7_optionsAreGood 62 = .ok (.iconst 1, 1) := by decide +kernel
theorem dX7_optionsAreGood_63 : decode cX7_optionsAreGood 63 = .ok (.iadd, 1) := by decide +kernel
theorem dX7_optionsAreGood_64 : decode cX7_optionsAreGood 64 = .ok (.invokestatic 111, 3) := by decide +kernel
theorem dX7_optionsAreGood_67 : decode cX7_optionsAreGood 67 = .ok (.istore_n 3, 1) := by decide +kernel
theorem dX7_optionsAreGood_68 : decode cX7_optionsAreGood 68 = .ok (.iload_n 3, 1) := by decide +kernel
theorem dX7_optionsAreGood_69 : decode cX7_optionsAreGood 69 = .ok (.iconst 2, 1) := by decide +kernel
theorem dX7_optionsAreGood_70 : decode cX7_optionsAreGood 70 = .ok (.if_icmp .lt 13, 3) := by decide +kernel
theorem dX7_optionsAreGood_73 : decode cX7_optionsAreGood 73 = .ok (.iload_n 1, 1) := by decide +kernel
theorem dX7_optionsAreGood_74 : decode cX7_optionsAreGood 74 = .ok (.iload_n 3, 1) := by decide +kernel
theorem dX7_optionsAreGood_75 : decode cX7_optionsAreGood 75 = .ok (.iadd, 1) := by decide +kernel
theorem dX7_optionsAreGood_76 : decode cX7_optionsAreGood 76 = .ok (.aload_n 0, 1) := by decide +kernel
theorem dX7_optionsAreGood_77 : decode cX7_optionsAreGood 77 = .ok (.getfield 185, 3) := by decide +kernel
theorem dX7_optionsAreGood_80 : decode cX7_optionsAreGood 80 = .ok (.if_icmp .le 5, 3) := by decide +kernel
theorem dX7_optionsAreGood_83 : decode cX7_optionsAreGood 83 = .ok (.iconst 0, 1) := by decide +kernel
theorem dX7_optionsAreGood_84 : decode cX7_optionsAreGood 84 = .ok (.ireturn, 1) := by decide +kernel
theorem dX7_optionsAreGood_85 : decode cX7_optionsAreGood 85 = .ok (.iload_n 2, 1) := by decide +kernel
theorem dX7_optionsAreGood_86 : decode cX7_optionsAreGood 86 = .ok (.sipush 131, 3) := by decide +kernel
theorem dX7_optionsAreGood_89 : decode cX7_optionsAreGood 89 = .ok (.if_icmp .eq 10, 3) := by decide +kernel
theorem dX7_optionsAreGood_92 : decode cX7_optionsAreGood 92 = .ok (.iload_n 2, 1) := by decide +kernel
theorem dX7_optionsAreGood_93 : decode cX7_optionsAreGood 93 = .ok (.sipush 137, 3) := by decide +kernel
theorem dX7_optionsAreGood_96 : decode cX7_optionsAreGood 96 = .ok (.if_icmp .ne 27, 3) := by decide +kernel
theorem dX7_optionsAreGood_99 : decode cX7_optionsAreGood 99 = .ok (.iload_n 3, 1) := by decide +kernel
theorem dX7_optionsAreGood_100 : decode cX7_optionsAreGood 100 = .ok (.iconst 3, 1) := by decide +kernel
theorem dX7_optionsAreGood_101 : decode cX7_optionsAreGood 101 = .ok (.if_icmp .lt 22, 3) := by decide +kernel
theorem dX7_optionsAreGood_104 : decode cX7_optionsAreGood 104 = .ok (.aload_n 0, 1) := by decide +kernel
theorem dX7_optionsAreGood_105 : decode cX7_optionsAreGood 105 = .ok (.getfield 7, 3) := by decide +kernel
theorem dX7_optionsAreGood_108 : decode cX7_optionsAreGood 108 = .ok (.iload_n 1, 1) := by decide +kernel
theorem dX7_optionsAreGood_109 : decode cX7_optionsAreGood 109 = .ok (.iconst 2, 1) := by decide +kernel
theorem dX7_optionsAreGood_110 : decode cX7_optionsAreGood 110 = .ok (.iadd, 1) := by decide +kernel
theorem dX7_optionsAreGood_111 : decode cX7_optionsAreGood 111 = .ok (.invokestatic 111, 3) := by decide +kernel
theorem dX7_optionsAreGood_114 : decode cX7_optionsAreGood 114 = .ok (.iload_n 3, 1) := by decide +kernel
theorem dX7_optionsAreGood_115 : decode cX7_optionsAreGood 115 = .ok (.if_icmp .gt 8, 3) := by decide +kernel
theorem dX7_optionsAreGood_118 : decode cX7_optionsAreGood 118 = .ok (.aload_n 0, 1) := by decide +kernel
theorem dX7_optionsAreGood_119 : decode cX7_optionsAreGood 119 = .ok (.iconst 1, 1) := by decide +kernel
theorem dX7_optionsAreGood_120 : decode cX7_optionsAreGood 120 = .ok (.putfield 200, 3) := by decide +kernel
theorem dX7_optionsAreGood_123 : decode cX7_optionsAreGood 123 = .ok (.iload_n 1, 1) := by decide +kernel
theorem dX7_optionsAreGood_124 : decode cX7_optionsAreGood 124 = .ok (.iload_n 3, 1) := by decide +kernel
theorem dX7_optionsAreGood_125 : decode cX7_optionsAreGood 125 = .ok (.iadd, 1) := by decide +kernel
theorem dX7_optionsAreGood_126 : decode cX7_optionsAreGood 126 = .ok (.istore_n 1, 1) := by decide +kernel
theorem dX7_optionsAreGood_127 : decode cX7_optionsAreGood 127 = .ok (.goto (-119), 3) := by decide +kernel
theorem dX7_optionsAreGood_130 : decode cX7_optionsAreGood 130 = .ok (.iconst 1, 1) := by decide +kernel
theorem dX7_optionsAreGood_131 : decode cX7_optionsAreGood 131 = .ok (.ireturn, 1) := by decide +kernel
theorem dX7_isFormed4_0 : decode cX7_isFormed4 0 = .ok (.iload_n 1, 1) := by decide +kernel
theorem dX7_isFormed4_1 : decode cX7_isFormed4 1 = .ok (.bipush 20, 2) := by decide +kernel
theorem dX7_isFormed4_3 : decode cX7_isFormed4 3 = .ok (.if_icmp .lt 17, 3) := by decide +kernel
theorem dX7_isFormed4_6 : decode cX7_isFormed4 6 = .ok (.aload_n 0, 1) := by decide +kernel
theorem dX7_isFormed4_7 : decode cX7_isFormed4 7 = .ok (.getfield 7, 3) := by decide +kernel
theorem dX7_isFormed4_10 : decode cX7_isFormed4 10 = .ok (.iconst 0, 1) := by decide +kernel
theorem dX7_isFormed4_11 : decode cX7_isFormed4 11 = .ok (.invokestatic 111, 3) := by decide +kernel
theorem dX7_isFormed4_14 : decode cX7_isFormed4 14 = .ok (.iconst 4, 1) := by decide +kernel
theorem dX7_isFormed4_15 : decode cX7_isFormed4 15 = .ok (.ishr, 1) := by decide +kernel
theorem dX7_isFormed4_16 : decode cX7_isFormed4 16 = .ok (.iconst 4, 1) := by decide +kernel
theorem dX7_isFormed4_17 : decode cX7_isFormed4 17 = .ok (.if_icmp .eq 5, 3) := by decide +kernel
theorem dX7_isFormed4_20 : decode cX7_isFormed4 20 = .ok (.iconst 0, 1) := by decide +kernel
theorem dX7_isFormed4_21 : decode cX7_isFormed4 21 = .ok (.ireturn, 1) := by decide +kernel
theorem dX7_isFormed4_22 : decode cX7_isFormed4 22 = .ok (.aload_n 0, 1) := by decide +kernel
theorem dX7_isFormed4_23 : decode cX7_isFormed4 23 = .ok (.iconst 0, 1) := by decide +kernel
theorem dX7_isFormed4_24 : decode cX7_isFormed4 24 = .ok (.invokevirtual 203, 3) := by decide +kernel
theorem dX7_isFormed4_27 : decode cX7_isFormed4 27 = .ok (.aload_n 0, 1) := by decide +kernel
theorem dX7_isFormed4_28 : decode cX7_isFormed4 28 = .ok (.getfield 185, 3) := by decide +kernel
theorem dX7_isFormed4_31 : decode cX7_isFormed4 31 = .ok (.bipush 20, 2) := by decide +kernel
theorem dX7_isFormed4_33 : decode cX7_isFormed4 33 = .ok (.if_icmp .lt 30, 3) := by decide +kernel
theorem dX7_isFormed4_36 : decode cX7_isFormed4 36 = .ok (.aload_n 0, 1) := by decide +kernel
theorem dX7_isFormed4_37 : decode cX7_isFormed4 37 = .ok (.getfield 185, 3) := by decide +kernel
theorem dX7_isFormed4_40 : decode cX7_isFormed4 40 = .ok (.iload_n 1, 1) := by decide +kernel
theorem dX7_isFormed4_41 : decode cX7_isFormed4 41 = .ok (.if_icmp .gt 22, 3) := by decide +kernel
theorem dX7_isFormed4_44 : decode cX7_isFormed4 44 = .ok (.aload_n 0, 1) := by decide +kernel
theorem dX7_isFormed4_45 : decode cX7_isFormed4 45 = .ok (.getfield 188, 3) := by decide +kernel
theorem dX7_isFormed4_48 : decode cX7_isFormed4 48 = .ok (.aload_n 0, 1) := by decide +kernel
theorem dX7_isFormed4_49 : decode cX7_isFormed4 49 = .ok (.getfield 185, 3) := by decide +kernel
theorem dX7_isFormed4_52 : decode cX7_isFormed4 52 = .ok (.if_icmp .lt 11, 3) := by decide +kernel
theorem dX7_isFormed4_55 : decode cX7_isFormed4 55 = .ok (.aload_n 0, 1) := by decide +kernel
theorem dX7_isFormed4_56 : decode cX7_isFormed4 56 = .ok (.getfield 188, 3) := by decide +kernel
theorem dX7_isFormed4_59 : decode cX7_isFormed4 59 = .ok (.iload_n 1, 1) := by decide +kernel
theorem dX7_isFormed4_60 : decode cX7_isFormed4 60 = .ok (.if_icmp .le 5, 3) := by decide +kernel
theorem dX7_isFormed4_63 : decode cX7_isFormed4 63 = .ok (.iconst 0, 1) := by decide +kernel
theorem dX7_isFormed4_64 : decode cX7_isFormed4 64 = .ok (.ireturn, 1) := by decide +kernel
theorem dX7_isFormed4_65 : decode cX7_isFormed4 65 = .ok (.aload_n 0, 1) := by decide +kernel
theorem dX7_isFormed4_66 : decode cX7_isFormed4 66 = .ok (.lconst 0, 1) := by decide +kernel
theorem dX7_isFormed4_67 : decode cX7_isFormed4 67 = .ok (.putfield 102, 3) := by decide +kernel
theorem dX7_isFormed4_70 : decode cX7_isFormed4 70 = .ok (.aload_n 0, 1) := by decide +kernel
theorem dX7_isFormed4_71 : decode cX7_isFormed4 71 = .ok (.aload_n 0, 1) := by decide +kernel
theorem dX7_isFormed4_72 : decode cX7_isFormed4 72 = .ok (.getfield 7, 3) := by decide +kernel
theorem dX7_isFormed4_75 : decode cX7_isFormed4 75 = .ok (.iconst 0, 1) := by decide +kernel
theorem dX7_isFormed4_76 : decode cX7_isFormed4 76 = .ok (.aload_n 0, 1) := by decide +kernel
theorem dX7_isFormed4_77 : decode cX7_isFormed4 77 = .ok (.getfield 185, 3) := by decide +kernel
theorem dX7_isFormed4_80 : decode cX7_isFormed4 80 = .ok (.invokevirtual 206, 3) := by decide +kernel
theorem dX7_isFormed4_83 : decode cX7_isFormed4 83 = .ok (.aload_n 0, 1) := by decide +kernel
theorem dX7_isFormed4_84 : decode cX7_isFormed4 84 = .ok (.getfield 102, 3) := by decide +kernel
theorem dX7_isFormed4_87 : decode cX7_isFormed4 87 = .ok (.ldc2_w 105, 3) := by decide +kernel
theorem dX7_isFormed4_90 : decode cX7_isFormed4 90 = .ok (.lcmp, 1) := by decide +kernel
theorem dX7_isFormed4_91 : decode cX7_isFormed4 91 = .ok (.ifCond .ne 33, 3) := by decide +kernel
theorem dX7_isFormed4_94 : decode cX7_isFormed4 94 = .ok (.aload_n 0, 1) := by decide +kernel
theorem dX7_isFormed4_95 : decode cX7_isFormed4 95 = .ok (.invokevirtual 209, 3) := by decide +kernel
theorem dX7_isFormed4_98 : decode cX7_isFormed4 98 = .ok (.ifCond .eq 26, 3) := by decide +kernel
theorem dX7_isFormed4_101 : decode cX7_isFormed4 101 = .ok (.aload_n 0, 1) := by decide +kernel
theorem dX7_isFormed4_102 : decode cX7_isFormed4 102 = .ok (.getfield 191, 3) := by decide +kernel
theorem dX7_isFormed4_105 : decode cX7_isFormed4 105 = .ok (.aload_n 0, 1) := by decide +kernel
theorem dX7_isFormed4_106 : decode cX7_isFormed4 106 = .ok (.getfield 188, 3) := by decide +kernel
theorem dX7_isFormed4_109 : decode cX7_isFormed4 109 = .ok (.iadd, 1) := by decide +kernel
theorem dX7_isFormed4_110 : decode cX7_isFormed4 110 = .ok (.aload_n 0, 1) := by decide +kernel
theorem dX7_isFormed4_111 : decode cX7_isFormed4 111 = .ok (.getfield 185, 3) := by decide +kernel
theorem dX7_isFormed4_114 : decode cX7_isFormed4 114 = .ok (.isub, 1) := by decide +kernel
theorem dX7_isFormed4_115 : decode cX7_isFormed4 115 = .ok (.ldc 107, 2) := by decide +kernel
theorem dX7_isFormed4_117 : decode cX7_isFormed4 117 = .ok (.if_icmp .gt 7, 3) := by decide +kernel
theorem dX7_isFormed4_120 : decode cX7_isFormed4 120 = .ok (.iconst 1, 1) := by decide +kernel
theorem dX7_isFormed4_121 : decode cX7_isFormed4 121 = .ok (.goto 4, 3) := by decide +kernel
theorem dX7_isFormed4_124 : decode cX7_isFormed4 124 = .ok (.iconst 0, 1) := by decide +kernel
theorem dX7_isFormed4_125 : decode cX7_isFormed4 125 = .ok (.ireturn, 1) := by decide +kernel
theorem dX7_answer4_0 : decode cX7_answer4 0 = .ok (.aload_n 0, 1) := by decide +kernel
theorem dX7_answer4_1 : decode cX7_answer4 1 = .ok (.getfield 191, 3) := by decide +kernel
theorem dX7_answer4_4 : decode cX7_answer4 4 = .ok (.ifCond .gt 48, 3) := by decide +kernel
theorem dX7_answer4_7 : decode cX7_answer4 7 = .ok (.aload_n 0, 1) := by decide +kernel
theorem dX7_answer4_8 : decode cX7_answer4 8 = .ok (.getfield 197, 3) := by decide +kernel
theorem dX7_answer4_11 : decode cX7_answer4 11 = .ok (.iconst 1, 1) := by decide +kernel
theorem dX7_answer4_12 : decode cX7_answer4 12 = .ok (.if_icmp .ne 44, 3) := by decide +kernel
theorem dX7_answer4_15 : decode cX7_answer4 15 = .ok (.aload_n 0, 1) := by decide +kernel
theorem dX7_answer4_16 : decode cX7_answer4 16 = .ok (.getfield 188, 3) := by decide +kernel
theorem dX7_answer4_19 : decode cX7_answer4 19 = .ok (.aload_n 0, 1) := by decide +kernel
theorem dX7_answer4_20 : decode cX7_answer4 20 = .ok (.getfield 185, 3) := by decide +kernel
theorem dX7_answer4_23 : decode cX7_answer4 23 = .ok (.if_icmp .eq 29, 3) := by decide +kernel
theorem dX7_answer4_26 : decode cX7_answer4 26 = .ok (.aload_n 0, 1) := by decide +kernel
theorem dX7_answer4_27 : decode cX7_answer4 27 = .ok (.getfield 7, 3) := by decide +kernel
theorem dX7_answer4_30 : decode cX7_answer4 30 = .ok (.aload_n 0, 1) := by decide +kernel
theorem dX7_answer4_31 : decode cX7_answer4 31 = .ok (.getfield 185, 3) := by decide +kernel
theorem dX7_answer4_34 : decode cX7_answer4 34 = .ok (.baload, 1) := by decide +kernel
theorem dX7_answer4_35 : decode cX7_answer4 35 = .ok (.bipush 8, 2) := by decide +kernel
theorem dX7_answer4_37 : decode cX7_answer4 37 = .ok (.if_icmp .eq 19, 3) := by decide +kernel
theorem dX7_answer4_40 : decode cX7_answer4 40 = .ok (.aload_n 0, 1) := by decide +kernel
theorem dX7_answer4_41 : decode cX7_answer4 41 = .ok (.getfield 7, 3) := by decide +kernel
theorem dX7_answer4_44 : decode cX7_answer4 44 = .ok (.aload_n 0, 1) := by decide +kernel
theorem dX7_answer4_45 : decode cX7_answer4 45 = .ok (.getfield 185, 3) := by decide +kernel
theorem dX7_answer4_48 : decode cX7_answer4 48 = .ok (.baload, 1) := by decide +kernel
theorem dX7_answer4_49 : decode cX7_answer4 49 = .ok (.ifCond .eq 7, 3) := by decide +kernel
theorem dX7_answer4_52 : decode cX7_answer4 52 = .ok (.iconst 1, 1) := by decide +kernel
theorem dX7_answer4_53 : decode cX7_answer4 53 = .ok (.goto 4, 3) := by decide +kernel
theorem dX7_answer4_56 : decode cX7_answer4 56 = .ok (.iconst 0, 1) := by decide +kernel
theorem dX7_answer4_57 : decode cX7_answer4 57 = .ok (.istore 4, 2) := by decide +kernel
theorem dX7_answer4_59 : decode cX7_answer4 59 = .ok (.iload 4, 2) := by decide +kernel
theorem dX7_answer4_61 : decode cX7_answer4 61 = .ok (.ifCond .eq 10, 3) := by decide +kernel
theorem dX7_answer4_64 : decode cX7_answer4 64 = .ok (.aload_n 0, 1) := by decide +kernel
theorem dX7_answer4_65 : decode cX7_answer4 65 = .ok (.bipush 9, 2) := by decide +kernel
theorem dX7_answer4_67 : decode cX7_answer4 67 = .ok (.invokevirtual 213, 3) := by decide +kernel
theorem dX7_answer4_70 : decode cX7_answer4 70 = .ok (.ireturn, 1) := by decide +kernel
theorem dX7_answer4_71 : decode cX7_answer4 71 = .ok (.aload_n 0, 1) := by decide +kernel
theorem dX7_answer4_72 : decode cX7_answer4 72 = .ok (.getfield 188, 3) := by decide +kernel
theorem dX7_answer4_75 : decode cX7_answer4 75 = .ok (.aload_n 0, 1) := by decide +kernel
theorem dX7_answer4_76 : decode cX7_answer4 76 = .ok (.getfield 185, 3) := by decide +kernel
theorem dX7_answer4_79 : decode cX7_answer4 79 = .ok (.bipush 8, 2) := by decide +kernel
theorem dX7_answer4_81 : decode cX7_answer4 81 = .ok (.iadd, 1) := by decide +kernel
theorem dX7_answer4_82 : decode cX7_answer4 82 = .ok (.if_icmp .ge 10, 3) := by decide +kernel
theorem dX7_answer4_85 : decode cX7_answer4 85 = .ok (.aload_n 0, 1) := by decide +kernel
theorem dX7_answer4_86 : decode cX7_answer4 86 = .ok (.getfield 188, 3) := by decide +kernel
theorem dX7_answer4_89 : decode cX7_answer4 89 = .ok (.goto 10, 3) := by decide +kernel
theorem dX7_answer4_92 : decode cX7_answer4 92 = .ok (.aload_n 0, 1) := by decide +kernel
theorem dX7_answer4_93 : decode cX7_answer4 93 = .ok (.getfield 185, 3) := by decide +kernel
theorem dX7_answer4_96 : decode cX7_answer4 96 = .ok (.bipush 8, 2) := by decide +kernel
theorem dX7_answer4_98 : decode cX7_answer4 98 = .ok (.iadd, 1) := by decide +kernel
theorem dX7_answer4_99 : decode cX7_answer4 99 = .ok (.istore 5, 2) := by decide +kernel
theorem dX7_answer4_101 : decode cX7_answer4 101 = .ok (.aload_n 0, 1) := by decide +kernel
theorem dX7_answer4_102 : decode cX7_answer4 102 = .ok (.bipush 28, 2) := by decide +kernel
theorem dX7_answer4_104 : decode cX7_answer4 104 = .ok (.iload 5, 2) := by decide +kernel
theorem dX7_answer4_106 : decode cX7_answer4 106 = .ok (.iadd, 1) := by decide +kernel
theorem dX7_answer4_107 : decode cX7_answer4 107 = .ok (.invokevirtual 217, 3) := by decide +kernel
theorem dX7_answer4_110 : decode cX7_answer4 110 = .ok (.istore 6, 2) := by decide +kernel
theorem dX7_answer4_112 : decode cX7_answer4 112 = .ok (.aload_n 0, 1) := by decide +kernel
theorem dX7_answer4_113 : decode cX7_answer4 113 = .ok (.getfield 52, 3) := by decide +kernel
theorem dX7_answer4_116 : decode cX7_answer4 116 = .ok (.iload 6, 2) := by decide +kernel
theorem dX7_answer4_118 : decode cX7_answer4 118 = .ok (.bipush 69, 2) := by decide +kernel
theorem dX7_answer4_120 : decode cX7_answer4 120 = .ok (.bastore, 1) := by decide +kernel
theorem dX7_answer4_121 : decode cX7_answer4 121 = .ok (.aload_n 0, 1) := by decide +kernel
theorem dX7_answer4_122 : decode cX7_answer4 122 = .ok (.getfield 52, 3) := by decide +kernel
theorem dX7_answer4_125 : decode cX7_answer4 125 = .ok (.iload 6, 2) := by decide +kernel
theorem dX7_answer4_127 : decode cX7_answer4 127 = .ok (.iconst 2, 1) := by decide +kernel
theorem dX7_answer4_128 : decode cX7_answer4 128 = .ok (.iadd, 1) := by decide +kernel
theorem dX7_answer4_129 : decode cX7_answer4 129 = .ok (.bipush 28, 2) := by decide +kernel
theorem dX7_answer4_131 : decode cX7_answer4 131 = .ok (.iload 5, 2) := by decide +kernel
theorem dX7_answer4_133 : decode cX7_answer4 133 = .ok (.iadd, 1) := by decide +kernel
theorem dX7_answer4_134 : decode cX7_answer4 134 = .ok (.invokestatic 121, 3) := by decide +kernel
theorem dX7_answer4_137 : decode cX7_answer4 137 = .ok (.aload_n 0, 1) := by decide +kernel
theorem dX7_answer4_138 : decode cX7_answer4 138 = .ok (.getfield 52, 3) := by decide +kernel
theorem dX7_answer4_141 : decode cX7_answer4 141 = .ok (.iload 6, 2) := by decide +kernel
theorem dX7_answer4_143 : decode cX7_answer4 143 = .ok (.bipush 8, 2) := by decide +kernel
theorem dX7_answer4_145 : decode cX7_answer4 145 = .ok (.iadd, 1) := by decide +kernel
theorem dX7_answer4_146 : decode cX7_answer4 146 = .ok (.bipush 64, 2) := by decide +kernel
theorem dX7_answer4_148 : decode cX7_answer4 148 = .ok (.bastore, 1) := by decide +kernel
theorem dX7_answer4_149 : decode cX7_answer4 149 = .ok (.aload_n 0, 1) := by decide +kernel
theorem dX7_answer4_150 : decode cX7_answer4 150 = .ok (.getfield 52, 3) := by decide +kernel
theorem dX7_answer4_153 : decode cX7_answer4 153 = .ok (.iload 6, 2) := by decide +kernel
theorem dX7_answer4_155 : decode cX7_answer4 155 = .ok (.bipush 9, 2) := by decide +kernel
theorem dX7_answer4_157 : decode cX7_answer4 157 = .ok (.iadd, 1) := by decide +kernel
theorem dX7_answer4_158 : decode cX7_answer4 158 = .ok (.iconst 1, 1) := by decide +kernel
theorem dX7_answer4_159 : decode cX7_answer4 159 = .ok (.bastore, 1) := by decide +kernel
theorem dX7_answer4_160 : decode cX7_answer4 160 = .ok (.aload_n 0, 1) := by decide +kernel
theorem dX7_answer4_161 : decode cX7_answer4 161 = .ok (.getfield 52, 3) := by decide +kernel
theorem dX7_answer4_164 : decode cX7_answer4 164 = .ok (.iload 6, 2) := by decide +kernel
theorem dX7_answer4_166 : decode cX7_answer4 166 = .ok (.bipush 12, 2) := by decide +kernel
theorem dX7_answer4_168 : decode cX7_answer4 168 = .ok (.iadd, 1) := by decide +kernel
theorem dX7_answer4_169 : decode cX7_answer4 169 = .ok (.aload_n 0, 1) := by decide +kernel
theorem dX7_answer4_170 : decode cX7_answer4 170 = .ok (.getfield 24, 3) := by decide +kernel
theorem dX7_answer4_173 : decode cX7_answer4 173 = .ok (.invokestatic 125, 3) := by decide +kernel
theorem dX7_answer4_176 : decode cX7_answer4 176 = .ok (.aload_n 0, 1) := by decide +kernel
theorem dX7_answer4_177 : decode cX7_answer4 177 = .ok (.getfield 52, 3) := by decide +kernel
theorem dX7_answer4_180 : decode cX7_answer4 180 = .ok (.iload 6, 2) := by decide +kernel
theorem dX7_answer4_182 : decode cX7_answer4 182 = .ok (.bipush 16, 2) := by decide +kernel
theorem dX7_answer4_184 : decode cX7_answer4 184 = .ok (.iadd, 1) := by decide +kernel
theorem dX7_answer4_185 : decode cX7_answer4 185 = .ok (.aload_n 0, 1) := by decide +kernel
theorem dX7_answer4_186 : decode cX7_answer4 186 = .ok (.getfield 7, 3) := by decide +kernel
theorem dX7_answer4_189 : decode cX7_answer4 189 = .ok (.bipush 12, 2) := by decide +kernel
theorem dX7_answer4_191 : decode cX7_answer4 191 = .ok (.invokestatic 118, 3) := by decide +kernel
theorem dX7_answer4_194 : decode cX7_answer4 194 = .ok (.invokestatic 125, 3) := by decide +kernel
theorem dX7_answer4_197 : decode cX7_answer4 197 = .ok (.aload_n 0, 1) := by decide +kernel
theorem dX7_answer4_198 : decode cX7_answer4 198 = .ok (.iload 6, 2) := by decide +kernel
theorem dX7_answer4_200 : decode cX7_answer4 200 = .ok (.invokevirtual 220, 3) := by decide +kernel
theorem dX7_answer4_203 : decode cX7_answer4 203 = .ok (.aload_n 0, 1) := by decide +kernel
theorem dX7_answer4_204 : decode cX7_answer4 204 = .ok (.getfield 52, 3) := by decide +kernel
theorem dX7_answer4_207 : decode cX7_answer4 207 = .ok (.iload 6, 2) := by decide +kernel
theorem dX7_answer4_209 : decode cX7_answer4 209 = .ok (.bipush 20, 2) := by decide +kernel
theorem dX7_answer4_211 : decode cX7_answer4 211 = .ok (.iadd, 1) := by decide +kernel
theorem dX7_answer4_212 : decode cX7_answer4 212 = .ok (.iload_n 1, 1) := by decide +kernel
theorem dX7_answer4_213 : decode cX7_answer4 213 = .ok (.i2b, 1) := by decide +kernel
theorem dX7_answer4_214 : decode cX7_answer4 214 = .ok (.bastore, 1) := by decide +kernel
theorem dX7_answer4_215 : decode cX7_answer4 215 = .ok (.aload_n 0, 1) := by decide +kernel
theorem dX7_answer4_216 : decode cX7_answer4 216 = .ok (.getfield 52, 3) := by decide +kernel
theorem dX7_answer4_219 : decode cX7_answer4 219 = .ok (.iload 6, 2) := by decide +kernel
theorem dX7_answer4_221 : decode cX7_answer4 221 = .ok (.bipush 21, 2) := by decide +kernel
theorem dX7_answer4_223 : decode cX7_answer4 223 = .ok (.iadd, 1) := by decide +kernel
theorem dX7_answer4_224 : decode cX7_answer4 224 = .ok (.iload_n 2, 1) := by decide +kernel
theorem dX7_answer4_225 : decode cX7_answer4 225 = .ok (.i2b, 1) := by decide +kernel
theorem dX7_answer4_226 : decode cX7_answer4 226 = .ok (.bastore, 1) := by decide +kernel
theorem dX7_answer4_227 : decode cX7_answer4 227 = .ok (.aload_n 0, 1) := by decide +kernel
theorem dX7_answer4_228 : decode cX7_answer4 228 = .ok (.getfield 52, 3) := by decide +kernel
theorem dX7_answer4_231 : decode cX7_answer4 231 = .ok (.iload 6, 2) := by decide +kernel
theorem dX7_answer4_233 : decode cX7_answer4 233 = .ok (.bipush 26, 2) := by decide +kernel
theorem dX7_answer4_235 : decode cX7_answer4 235 = .ok (.iadd, 1) := by decide +kernel
theorem dX7_answer4_236 : decode cX7_answer4 236 = .ok (.iload_n 3, 1) := by decide +kernel
theorem dX7_answer4_237 : decode cX7_answer4 237 = .ok (.invokestatic 121, 3) := by decide +kernel
theorem dX7_answer4_240 : decode cX7_answer4 240 = .ok (.iconst 0, 1) := by decide +kernel
theorem dX7_answer4_241 : decode cX7_answer4 241 = .ok (.istore 7, 2) := by decide +kernel
theorem dX7_answer4_243 : decode cX7_answer4 243 = .ok (.iload 7, 2) := by decide +kernel
theorem dX7_answer4_245 : decode cX7_answer4 245 = .ok (.iload 5, 2) := by decide +kernel
theorem dX7_answer4_247 : decode cX7_answer4 247 = .ok (.if_icmp .ge 29, 3) := by decide +kernel
theorem dX7_answer4_250 : decode cX7_answer4 250 = .ok (.aload_n 0, 1) := by decide +kernel
theorem dX7_answer4_251 : decode cX7_answer4 251 = .ok (.getfield 52, 3) := by decide +kernel
theorem dX7_answer4_254 : decode cX7_answer4 254 = .ok (.iload 6, 2) := by decide +kernel
theorem dX7_answer4_256 : decode cX7_answer4 256 = .ok (.bipush 28, 2) := by decide +kernel
theorem dX7_answer4_258 : decode cX7_answer4 258 = .ok (.iadd, 1) := by decide +kernel
theorem dX7_answer4_259 : decode cX7_answer4 259 = .ok (.iload 7, 2) := by decide +kernel
theorem dX7_answer4_261 : decode cX7_answer4 261 = .ok (.iadd, 1) := by decide +kernel
theorem dX7_answer4_262 : decode cX7_answer4 262 = .ok (.aload_n 0, 1) := by decide +kernel
theorem dX7_answer4_263 : decode cX7_answer4 263 = .ok (.getfield 7, 3) := by decide +kernel
theorem dX7_answer4_266 : decode cX7_answer4 266 = .ok (.iload 7, 2) := by decide +kernel
theorem dX7_answer4_268 : decode cX7_answer4 268 = .ok (.baload, 1) := by decide +kernel
theorem dX7_answer4_269 : decode cX7_answer4 269 = .ok (.bastore, 1) := by decide +kernel
theorem dX7_answer4_270 : decode cX7_answer4 270 = .ok (.iinc 7 1, 3) := by decide +kernel
theorem dX7_answer4_273 : decode cX7_answer4 273 = .ok (.goto (-30), 3) := by decide +kernel
theorem dX7_answer4_276 : decode cX7_answer4 276 = .ok (.aload_n 0, 1) := by decide +kernel
theorem dX7_answer4_277 : decode cX7_answer4 277 = .ok (.lconst 0, 1) := by decide +kernel
theorem dX7_answer4_278 : decode cX7_answer4 278 = .ok (.putfield 102, 3) := by decide +kernel
theorem dX7_answer4_281 : decode cX7_answer4 281 = .ok (.aload_n 0, 1) := by decide +kernel
theorem dX7_answer4_282 : decode cX7_answer4 282 = .ok (.aload_n 0, 1) := by decide +kernel
theorem dX7_answer4_283 : decode cX7_answer4 283 = .ok (.getfield 52, 3) := by decide +kernel
theorem dX7_answer4_286 : decode cX7_answer4 286 = .ok (.iload 6, 2) := by decide +kernel
theorem dX7_answer4_288 : decode cX7_answer4 288 = .ok (.bipush 20, 2) := by decide +kernel
theorem dX7_answer4_290 : decode cX7_answer4 290 = .ok (.iadd, 1) := by decide +kernel
theorem dX7_answer4_291 : decode cX7_answer4 291 = .ok (.aload_n 0, 1) := by decide +kernel
theorem dX7_answer4_292 : decode cX7_answer4 292 = .ok (.getfield 128, 3) := by decide +kernel
theorem dX7_answer4_295 : decode cX7_answer4 295 = .ok (.invokevirtual 206, 3) := by decide +kernel
theorem dX7_answer4_298 : decode cX7_answer4 298 = .ok (.aload_n 0, 1) := by decide +kernel
theorem dX7_answer4_299 : decode cX7_answer4 299 = .ok (.getfield 52, 3) := by decide +kernel
theorem dX7_answer4_302 : decode cX7_answer4 302 = .ok (.iload 6, 2) := by decide +kernel
theorem dX7_answer4_304 : decode cX7_answer4 304 = .ok (.bipush 22, 2) := by decide +kernel
theorem dX7_answer4_306 : decode cX7_answer4 306 = .ok (.iadd, 1) := by decide +kernel
theorem dX7_answer4_307 : decode cX7_answer4 307 = .ok (.aload_n 0, 1) := by decide +kernel
theorem dX7_answer4_308 : decode cX7_answer4 308 = .ok (.invokevirtual 177, 3) := by decide +kernel
theorem dX7_answer4_311 : decode cX7_answer4 311 = .ok (.invokestatic 121, 3) := by decide +kernel
theorem dX7_answer4_314 : decode cX7_answer4 314 = .ok (.aload_n 0, 1) := by decide +kernel
theorem dX7_answer4_315 : decode cX7_answer4 315 = .ok (.invokevirtual 223, 3) := by decide +kernel
theorem dX7_answer4_318 : decode cX7_answer4 318 = .ok (.aload_n 0, 1) := by decide +kernel
theorem dX7_answer4_319 : decode cX7_answer4 319 = .ok (.bipush 10, 2) := by decide +kernel
theorem dX7_answer4_321 : decode cX7_answer4 321 = .ok (.invokevirtual 213, 3) := by decide +kernel
theorem dX7_answer4_324 : decode cX7_answer4 324 = .ok (.ireturn, 1) := by decide +kernel
theorem dX7_headerSum_0 : decode cX7_headerSum 0 = .ok (.aload_n 0, 1) := by decide +kernel
theorem dX7_headerSum_1 : decode cX7_headerSum 1 = .ok (.getfield 52, 3) := by decide +kernel
theorem dX7_headerSum_4 : decode cX7_headerSum 4 = .ok (.iload_n 1, 1) := by decide +kernel
theorem dX7_headerSum_5 : decode cX7_headerSum 5 = .ok (.bipush 10, 2) := by decide +kernel
theorem dX7_headerSum_7 : decode cX7_headerSum 7 = .ok (.iadd, 1) := by decide +kernel
theorem dX7_headerSum_8 : decode cX7_headerSum 8 = .ok (.iconst 0, 1) := by decide +kernel
theorem dX7_headerSum_9 : decode cX7_headerSum 9 = .ok (.invokestatic 121, 3) := by decide +kernel
theorem dX7_headerSum_12 : decode cX7_headerSum 12 = .ok (.aload_n 0, 1) := by decide +kernel
theorem dX7_headerSum_13 : decode cX7_headerSum 13 = .ok (.lconst 0, 1) := by decide +kernel
theorem dX7_headerSum_14 : decode cX7_headerSum 14 = .ok (.putfield 102, 3) := by decide +kernel
theorem dX7_headerSum_17 : decode cX7_headerSum 17 = .ok (.aload_n 0, 1) := by decide +kernel
theorem dX7_headerSum_18 : decode cX7_headerSum 18 = .ok (.aload_n 0, 1) := by decide +kernel
theorem dX7_headerSum_19 : decode cX7_headerSum 19 = .ok (.getfield 52, 3) := by decide +kernel
theorem dX7_headerSum_22 : decode cX7_headerSum 22 = .ok (.iload_n 1, 1) := by decide +kernel
theorem dX7_headerSum_23 : decode cX7_headerSum 23 = .ok (.iload_n 1, 1) := by decide +kernel
theorem dX7_headerSum_24 : decode cX7_headerSum 24 = .ok (.bipush 20, 2) := by decide +kernel
theorem dX7_headerSum_26 : decode cX7_headerSum 26 = .ok (.iadd, 1) := by decide +kernel
theorem dX7_headerSum_27 : decode cX7_headerSum 27 = .ok (.invokevirtual 206, 3) := by decide +kernel
theorem dX7_headerSum_30 : decode cX7_headerSum 30 = .ok (.aload_n 0, 1) := by decide +kernel
theorem dX7_headerSum_31 : decode cX7_headerSum 31 = .ok (.getfield 52, 3) := by decide +kernel
theorem dX7_headerSum_34 : decode cX7_headerSum 34 = .ok (.iload_n 1, 1) := by decide +kernel
theorem dX7_headerSum_35 : decode cX7_headerSum 35 = .ok (.bipush 10, 2) := by decide +kernel
theorem dX7_headerSum_37 : decode cX7_headerSum 37 = .ok (.iadd, 1) := by decide +kernel
theorem dX7_headerSum_38 : decode cX7_headerSum 38 = .ok (.aload_n 0, 1) := by decide +kernel
theorem dX7_headerSum_39 : decode cX7_headerSum 39 = .ok (.invokevirtual 177, 3) := by decide +kernel
theorem dX7_headerSum_42 : decode cX7_headerSum 42 = .ok (.invokestatic 121, 3) := by decide +kernel
theorem dX7_headerSum_45 : decode cX7_headerSum 45 = .ok (.return_, 1) := by decide +kernel
theorem dX7_four__0 : decode cX7_four_ 0 = .ok (.aload_n 0, 1) := by decide +kernel
theorem dX7_four__1 : decode cX7_four_ 1 = .ok (.invokevirtual 226, 3) := by decide +kernel
theorem dX7_four__4 : decode cX7_four_ 4 = .ok (.aload_n 0, 1) := by decide +kernel
theorem dX7_four__5 : decode cX7_four_ 5 = .ok (.getfield 64, 3) := by decide +kernel
theorem dX7_four__8 : decode cX7_four_ 8 = .ok (.istore_n 1, 1) := by decide +kernel
theorem dX7_four__9 : decode cX7_four_ 9 = .ok (.aload_n 0, 1) := by decide +kernel
theorem dX7_four__10 : decode cX7_four_ 10 = .ok (.iconst 0, 1) := by decide +kernel
theorem dX7_four__11 : decode cX7_four_ 11 = .ok (.putfield 64, 3) := by decide +kernel
theorem dX7_four__14 : decode cX7_four_ 14 = .ok (.aload_n 0, 1) := by decide +kernel
theorem dX7_four__15 : decode cX7_four_ 15 = .ok (.iload_n 1, 1) := by decide +kernel
theorem dX7_four__16 : decode cX7_four_ 16 = .ok (.invokevirtual 229, 3) := by decide +kernel
theorem dX7_four__19 : decode cX7_four_ 19 = .ok (.ifCond .ne 9, 3) := by decide +kernel
theorem dX7_four__22 : decode cX7_four_ 22 = .ok (.aload_n 0, 1) := by decide +kernel
theorem dX7_four__23 : decode cX7_four_ 23 = .ok (.iconst 1, 1) := by decide +kernel
theorem dX7_four__24 : decode cX7_four_ 24 = .ok (.invokevirtual 213, 3) := by decide +kernel
theorem dX7_four__27 : decode cX7_four_ 27 = .ok (.ireturn, 1) := by decide +kernel
theorem dX7_four__28 : decode cX7_four_ 28 = .ok (.aload_n 0, 1) := by decide +kernel
theorem dX7_four__29 : decode cX7_four_ 29 = .ok (.aload_n 0, 1) := by decide +kernel
theorem dX7_four__30 : decode cX7_four_ 30 = .ok (.getfield 7, 3) := by decide +kernel
theorem dX7_four__33 : decode cX7_four_ 33 = .ok (.bipush 12, 2) := by decide +kernel
theorem dX7_four__35 : decode cX7_four_ 35 = .ok (.invokestatic 118, 3) := by decide +kernel
theorem dX7_four__38 : decode cX7_four_ 38 = .ok (.aload_n 0, 1) := by decide +kernel
theorem dX7_four__39 : decode cX7_four_ 39 = .ok (.getfield 7, 3) := by decide +kernel
theorem dX7_four__42 : decode cX7_four_ 42 = .ok (.bipush 16, 2) := by decide +kernel
theorem dX7_four__44 : decode cX7_four_ 44 = .ok (.invokestatic 118, 3) := by decide +kernel
theorem dX7_four__47 : decode cX7_four_ 47 = .ok (.invokevirtual 232, 3) := by decide +kernel
theorem dX7_four__50 : decode cX7_four_ 50 = .ok (.istore_n 2, 1) := by decide +kernel
theorem dX7_four__51 : decode cX7_four_ 51 = .ok (.aload_n 0, 1) := by decide +kernel
theorem dX7_four__52 : decode cX7_four_ 52 = .ok (.aload_n 0, 1) := by decide +kernel
theorem dX7_four__53 : decode cX7_four_ 53 = .ok (.getfield 137, 3) := by decide +kernel
theorem dX7_four__56 : decode cX7_four_ 56 = .ok (.invokevirtual 90, 3) := by decide +kernel
theorem dX7_four__59 : decode cX7_four_ 59 = .ok (.ifCond .ne 9, 3) := by decide +kernel
theorem dX7_four__62 : decode cX7_four_ 62 = .ok (.aload_n 0, 1) := by decide +kernel
theorem dX7_four__63 : decode cX7_four_ 63 = .ok (.iconst 2, 1) := by decide +kernel
theorem dX7_four__64 : decode cX7_four_ 64 = .ok (.invokevirtual 213, 3) := by decide +kernel
theorem dX7_four__67 : decode cX7_four_ 67 = .ok (.ireturn, 1) := by decide +kernel
theorem dX7_four__68 : decode cX7_four_ 68 = .ok (.iload_n 2, 1) := by decide +kernel
theorem dX7_four__69 : decode cX7_four_ 69 = .ok (.ifCond .ne 9, 3) := by decide +kernel
theorem dX7_four__72 : decode cX7_four_ 72 = .ok (.aload_n 0, 1) := by decide +kernel
theorem dX7_four__73 : decode cX7_four_ 73 = .ok (.iconst 3, 1) := by decide +kernel
theorem dX7_four__74 : decode cX7_four_ 74 = .ok (.invokevirtual 213, 3) := by decide +kernel
theorem dX7_four__77 : decode cX7_four_ 77 = .ok (.ireturn, 1) := by decide +kernel
theorem dX7_four__78 : decode cX7_four_ 78 = .ok (.aload_n 0, 1) := by decide +kernel
theorem dX7_four__79 : decode cX7_four_ 79 = .ok (.getfield 200, 3) := by decide +kernel
theorem dX7_four__82 : decode cX7_four_ 82 = .ok (.ifCond .eq 11, 3) := by decide +kernel
theorem dX7_four__85 : decode cX7_four_ 85 = .ok (.aload_n 0, 1) := by decide +kernel
theorem dX7_four__86 : decode cX7_four_ 86 = .ok (.iconst 3, 1) := by decide +kernel
theorem dX7_four__87 : decode cX7_four_ 87 = .ok (.iconst 5, 1) := by decide +kernel
theorem dX7_four__88 : decode cX7_four_ 88 = .ok (.iconst 0, 1) := by decide +kernel
theorem dX7_four__89 : decode cX7_four_ 89 = .ok (.invokevirtual 236, 3) := by decide +kernel
theorem dX7_four__92 : decode cX7_four_ 92 = .ok (.ireturn, 1) := by decide +kernel
theorem dX7_four__93 : decode cX7_four_ 93 = .ok (.aload_n 0, 1) := by decide +kernel
theorem dX7_four__94 : decode cX7_four_ 94 = .ok (.getfield 7, 3) := by decide +kernel
theorem dX7_four__97 : decode cX7_four_ 97 = .ok (.bipush 8, 2) := by decide +kernel
theorem dX7_four__99 : decode cX7_four_ 99 = .ok (.invokestatic 111, 3) := by decide +kernel
theorem dX7_four__102 : decode cX7_four_ 102 = .ok (.istore_n 3, 1) := by decide +kernel
theorem dX7_four__103 : decode cX7_four_ 103 = .ok (.iload_n 3, 1) := by decide +kernel
theorem dX7_four__104 : decode cX7_four_ 104 = .ok (.iconst 2, 1) := by decide +kernel
theorem dX7_four__105 : decode cX7_four_ 105 = .ok (.if_icmp .ge 12, 3) := by decide +kernel
theorem dX7_four__108 : decode cX7_four_ 108 = .ok (.aload_n 0, 1) := by decide +kernel
theorem dX7_four__109 : decode cX7_four_ 109 = .ok (.bipush 11, 2) := by decide +kernel
theorem dX7_four__111 : decode cX7_four_ 111 = .ok (.iconst 0, 1) := by decide +kernel
theorem dX7_four__112 : decode cX7_four_ 112 = .ok (.iconst 0, 1) := by decide +kernel
theorem dX7_four__113 : decode cX7_four_ 113 = .ok (.invokevirtual 236, 3) := by decide +kernel
theorem dX7_four__116 : decode cX7_four_ 116 = .ok (.ireturn, 1) := by decide +kernel
theorem dX7_four__117 : decode cX7_four_ 117 = .ok (.aload_n 0, 1) := by decide +kernel
theorem dX7_four__118 : decode cX7_four_ 118 = .ok (.getfield 197, 3) := by decide +kernel
theorem dX7_four__121 : decode cX7_four_ 121 = .ok (.invokestatic 240, 3) := by decide +kernel
theorem dX7_four__124 : decode cX7_four_ 124 = .ok (.ifCond .eq 10, 3) := by decide +kernel
theorem dX7_four__127 : decode cX7_four_ 127 = .ok (.aload_n 0, 1) := by decide +kernel
theorem dX7_four__128 : decode cX7_four_ 128 = .ok (.bipush 6, 2) := by decide +kernel
theorem dX7_four__130 : decode cX7_four_ 130 = .ok (.invokevirtual 213, 3) := by decide +kernel
theorem dX7_four__133 : decode cX7_four_ 133 = .ok (.ireturn, 1) := by decide +kernel
theorem dX7_four__134 : decode cX7_four_ 134 = .ok (.aload_n 0, 1) := by decide +kernel
theorem dX7_four__135 : decode cX7_four_ 135 = .ok (.getfield 197, 3) := by decide +kernel
theorem dX7_four__138 : decode cX7_four_ 138 = .ok (.iconst 1, 1) := by decide +kernel
theorem dX7_four__139 : decode cX7_four_ 139 = .ok (.if_icmp .ne 23, 3) := by decide +kernel
theorem dX7_four__142 : decode cX7_four_ 142 = .ok (.aload_n 0, 1) := by decide +kernel
theorem dX7_four__143 : decode cX7_four_ 143 = .ok (.getfield 194, 3) := by decide +kernel
theorem dX7_four__146 : decode cX7_four_ 146 = .ok (.ifCond .ne 10, 3) := by decide +kernel
theorem dX7_four__149 : decode cX7_four_ 149 = .ok (.aload_n 0, 1) := by decide +kernel
theorem dX7_four__150 : decode cX7_four_ 150 = .ok (.getfield 191, 3) := by decide +kernel
theorem dX7_four__153 : decode cX7_four_ 153 = .ok (.ifCond .le 9, 3) := by decide +kernel
theorem dX7_four__156 : decode cX7_four_ 156 = .ok (.aload_n 0, 1) := by decide +kernel
theorem dX7_four__157 : decode cX7_four_ 157 = .ok (.iconst 5, 1) := by decide +kernel
theorem dX7_four__158 : decode cX7_four_ 158 = .ok (.invokevirtual 213, 3) := by decide +kernel
theorem dX7_four__161 : decode cX7_four_ 161 = .ok (.ireturn, 1) := by decide +kernel
theorem dX7_four__162 : decode cX7_four_ 162 = .ok (.aload_n 0, 1) := by decide +kernel
theorem dX7_four__163 : decode cX7_four_ 163 = .ok (.getfield 188, 3) := by decide +kernel
theorem dX7_four__166 : decode cX7_four_ 166 = .ok (.aload_n 0, 1) := by decide +kernel
theorem dX7_four__167 : decode cX7_four_ 167 = .ok (.getfield 185, 3) := by decide +kernel
theorem dX7_four__170 : decode cX7_four_ 170 = .ok (.isub, 1) := by decide +kernel
theorem dX7_four__171 : decode cX7_four_ 171 = .ok (.istore 4, 2) := by decide +kernel
theorem dX7_four__173 : decode cX7_four_ 173 = .ok (.aload_n 0, 1) := by decide +kernel
theorem dX7_four__174 : decode cX7_four_ 174 = .ok (.getfield 191, 3) := by decide +kernel
theorem dX7_four__177 : decode cX7_four_ 177 = .ok (.ifCond .ne 21, 3) := by decide +kernel
theorem dX7_four__180 : decode cX7_four_ 180 = .ok (.aload_n 0, 1) := by decide +kernel
theorem dX7_four__181 : decode cX7_four_ 181 = .ok (.aload_n 0, 1) := by decide +kernel
theorem dX7_four__182 : decode cX7_four_ 182 = .ok (.getfield 185, 3) := by decide +kernel
theorem dX7_four__185 : decode cX7_four_ 185 = .ok (.iload 4, 2) := by decide +kernel
theorem dX7_four__187 : decode cX7_four_ 187 = .ok (.aload_n 0, 1) := by decide +kernel
theorem dX7_four__188 : decode cX7_four_ 188 = .ok (.getfield 194, 3) := by decide +kernel
theorem dX7_four__191 : decode cX7_four_ 191 = .ok (.iconst 1, 1) := by decide +kernel
theorem dX7_four__192 : decode cX7_four_ 192 = .ok (.invokevirtual 243, 3) := by decide +kernel
theorem dX7_four__195 : decode cX7_four_ 195 = .ok (.goto 4, 3) := by decide +kernel
theorem dX7_four__198 : decode cX7_four_ 198 = .ok (.iconst 0, 1) := by decide +kernel
theorem dX7_four__199 : decode cX7_four_ 199 = .ok (.istore 5, 2) := by decide +kernel
theorem dX7_four__201 : decode cX7_four_ 201 = .ok (.iload 5, 2) := by decide +kernel
theorem dX7_four__203 : decode cX7_four_ 203 = .ok (.ifCond .le 10, 3) := by decide +kernel
theorem dX7_four__206 : decode cX7_four_ 206 = .ok (.aload_n 0, 1) := by decide +kernel
theorem dX7_four__207 : decode cX7_four_ 207 = .ok (.iload 5, 2) := by decide +kernel
theorem dX7_four__209 : decode cX7_four_ 209 = .ok (.invokevirtual 213, 3) := by decide +kernel
theorem dX7_four__212 : decode cX7_four_ 212 = .ok (.ireturn, 1) := by decide +kernel
theorem dX7_four__213 : decode cX7_four_ 213 = .ok (.aload_n 0, 1) := by decide +kernel
theorem dX7_four__214 : decode cX7_four_ 214 = .ok (.getfield 197, 3) := by decide +kernel
theorem dX7_four__217 : decode cX7_four_ 217 = .ok (.bipush 17, 2) := by decide +kernel
theorem dX7_four__219 : decode cX7_four_ 219 = .ok (.if_icmp .ne 31, 3) := by decide +kernel
theorem dX7_four__222 : decode cX7_four_ 222 = .ok (.aload_n 0, 1) := by decide +kernel
theorem dX7_four__223 : decode cX7_four_ 223 = .ok (.getfield 191, 3) := by decide +kernel
theorem dX7_four__226 : decode cX7_four_ 226 = .ok (.ifCond .ne 24, 3) := by decide +kernel
theorem dX7_four__229 : decode cX7_four_ 229 = .ok (.aload_n 0, 1) := by decide +kernel
theorem dX7_four__230 : decode cX7_four_ 230 = .ok (.getfield 7, 3) := by decide +kernel
theorem dX7_four__233 : decode cX7_four_ 233 = .ok (.aload_n 0, 1) := by decide +kernel
theorem dX7_four__234 : decode cX7_four_ 234 = .ok (.getfield 185, 3) := by decide +kernel
theorem dX7_four__237 : decode cX7_four_ 237 = .ok (.bipush 6, 2) := by decide +kernel
theorem dX7_four__239 : decode cX7_four_ 239 = .ok (.iadd, 1) := by decide +kernel
theorem dX7_four__240 : decode cX7_four_ 240 = .ok (.invokestatic 115, 3) := by decide +kernel
theorem dX7_four__243 : decode cX7_four_ 243 = .ok (.ifCond .ne 7, 3) := by decide +kernel
theorem dX7_four__246 : decode cX7_four_ 246 = .ok (.iconst 1, 1) := by decide +kernel
theorem dX7_four__247 : decode cX7_four_ 247 = .ok (.goto 4, 3) := by decide +kernel
theorem dX7_four__250 : decode cX7_four_ 250 = .ok (.iconst 0, 1) := by decide +kernel
theorem dX7_four__251 : decode cX7_four_ 251 = .ok (.istore 6, 2) := by decide +kernel
theorem dX7_four__253 : decode cX7_four_ 253 = .ok (.iload 6, 2) := by decide +kernel
theorem dX7_four__255 : decode cX7_four_ 255 = .ok (.ifCond .eq 24, 3) := by decide +kernel
theorem dX7_four__258 : decode cX7_four_ 258 = .ok (.aload_n 0, 1) := by decide +kernel
theorem dX7_four__259 : decode cX7_four_ 259 = .ok (.getfield 194, 3) := by decide +kernel
theorem dX7_four__262 : decode cX7_four_ 262 = .ok (.ifCond .ne 10, 3) := by decide +kernel
theorem dX7_four__265 : decode cX7_four_ 265 = .ok (.aload_n 0, 1) := by decide +kernel
theorem dX7_four__266 : decode cX7_four_ 266 = .ok (.getfield 45, 3) := by decide +kernel
theorem dX7_four__269 : decode cX7_four_ 269 = .ok (.ifCond .ne 10, 3) := by decide +kernel
theorem dX7_four__272 : decode cX7_four_ 272 = .ok (.aload_n 0, 1) := by decide +kernel
theorem dX7_four__273 : decode cX7_four_ 273 = .ok (.bipush 7, 2) := by decide +kernel
theorem dX7_four__275 : decode cX7_four_ 275 = .ok (.invokevirtual 213, 3) := by decide +kernel
theorem dX7_four__278 : decode cX7_four_ 278 = .ok (.ireturn, 1) := by decide +kernel
theorem dX7_four__279 : decode cX7_four_ 279 = .ok (.aload_n 0, 1) := by decide +kernel
theorem dX7_four__280 : decode cX7_four_ 280 = .ok (.aload_n 0, 1) := by decide +kernel
theorem dX7_four__281 : decode cX7_four_ 281 = .ok (.getfield 7, 3) := by decide +kernel
theorem dX7_four__284 : decode cX7_four_ 284 = .ok (.aload_n 0, 1) := by decide +kernel
theorem dX7_four__285 : decode cX7_four_ 285 = .ok (.getfield 185, 3) := by decide +kernel
theorem dX7_four__288 : decode cX7_four_ 288 = .ok (.iload 4, 2) := by decide +kernel
theorem dX7_four__290 : decode cX7_four_ 290 = .ok (.invokevirtual 247, 3) := by decide +kernel
theorem dX7_four__293 : decode cX7_four_ 293 = .ok (.aload_n 0, 1) := by decide +kernel
theorem dX7_four__294 : decode cX7_four_ 294 = .ok (.getfield 197, 3) := by decide +kernel
theorem dX7_four__297 : decode cX7_four_ 297 = .ok (.iconst 1, 1) := by decide +kernel
theorem dX7_four__298 : decode cX7_four_ 298 = .ok (.if_icmp .ne 26, 3) := by decide +kernel
theorem dX7_four__301 : decode cX7_four_ 301 = .ok (.aload_n 0, 1) := by decide +kernel
theorem dX7_four__302 : decode cX7_four_ 302 = .ok (.iload 4, 2) := by decide +kernel
theorem dX7_four__304 : decode cX7_four_ 304 = .ok (.invokevirtual 250, 3) := by decide +kernel
theorem dX7_four__307 : decode cX7_four_ 307 = .ok (.istore 7, 2) := by decide +kernel
theorem dX7_four__309 : decode cX7_four_ 309 = .ok (.iload 7, 2) := by decide +kernel
theorem dX7_four__311 : decode cX7_four_ 311 = .ok (.ifCond .le 10, 3) := by decide +kernel
theorem dX7_four__314 : decode cX7_four_ 314 = .ok (.aload_n 0, 1) := by decide +kernel
theorem dX7_four__315 : decode cX7_four_ 315 = .ok (.iload 7, 2) := by decide +kernel
theorem dX7_four__317 : decode cX7_four_ 317 = .ok (.invokevirtual 213, 3) := by decide +kernel
theorem dX7_four__320 : decode cX7_four_ 320 = .ok (.ireturn, 1) := by decide +kernel
theorem dX7_four__321 : decode cX7_four_ 321 = .ok (.goto 110, 3) := by decide +kernel
theorem dX7_four__324 : decode cX7_four_ 324 = .ok (.aload_n 0, 1) := by decide +kernel
theorem dX7_four__325 : decode cX7_four_ 325 = .ok (.getfield 191, 3) := by decide +kernel
theorem dX7_four__328 : decode cX7_four_ 328 = .ok (.ifCond .ne 103, 3) := by decide +kernel
theorem dX7_four__331 : decode cX7_four_ 331 = .ok (.aload_n 0, 1) := by decide +kernel
theorem dX7_four__332 : decode cX7_four_ 332 = .ok (.getfield 197, 3) := by decide +kernel
theorem dX7_four__335 : decode cX7_four_ 335 = .ok (.bipush 17, 2) := by decide +kernel
theorem dX7_four__337 : decode cX7_four_ 337 = .ok (.if_icmp .eq 12, 3) := by decide +kernel
theorem dX7_four__340 : decode cX7_four_ 340 = .ok (.aload_n 0, 1) := by decide +kernel
theorem dX7_four__341 : decode cX7_four_ 341 = .ok (.getfield 197, 3) := by decide +kernel
theorem dX7_four__344 : decode cX7_four_ 344 = .ok (.bipush 6, 2) := by decide +kernel
theorem dX7_four__346 : decode cX7_four_ 346 = .ok (.if_icmp .ne 85, 3) := by decide +kernel
theorem dX7_four__349 : decode cX7_four_ 349 = .ok (.iload 6, 2) := by decide +kernel
theorem dX7_four__351 : decode cX7_four_ 351 = .ok (.ifCond .ne 26, 3) := by decide +kernel
theorem dX7_four__354 : decode cX7_four_ 354 = .ok (.aload_n 0, 1) := by decide +kernel
theorem dX7_four__355 : decode cX7_four_ 355 = .ok (.aload_n 0, 1) := by decide +kernel
theorem dX7_four__356 : decode cX7_four_ 356 = .ok (.getfield 58, 3) := by decide +kernel
theorem dX7_four__359 : decode cX7_four_ 359 = .ok (.aload_n 0, 1) := by decide +kernel
theorem dX7_four__360 : decode cX7_four_ 360 = .ok (.getfield 197, 3) := by decide +kernel
theorem dX7_four__363 : decode cX7_four_ 363 = .ok (.invokestatic 253, 3) := by decide +kernel
theorem dX7_four__366 : decode cX7_four_ 366 = .ok (.aload_n 0, 1) := by decide +kernel
theorem dX7_four__367 : decode cX7_four_ 367 = .ok (.getfield 197, 3) := by decide +kernel
theorem dX7_four__370 : decode cX7_four_ 370 = .ok (.iconst 1, 1) := by decide +kernel
theorem dX7_four__371 : decode cX7_four_ 371 = .ok (.invokevirtual 256, 3) := by decide +kernel
theorem dX7_four__374 : decode cX7_four_ 374 = .ok (.goto 57, 3) := by decide +kernel
theorem dX7_four__377 : decode cX7_four_ 377 = .ok (.aload_n 0, 1) := by decide +kernel
theorem dX7_four__378 : decode cX7_four_ 378 = .ok (.lconst 0, 1) := by decide +kernel
theorem dX7_four__379 : decode cX7_four_ 379 = .ok (.putfield 102, 3) := by decide +kernel
theorem dX7_four__382 : decode cX7_four_ 382 = .ok (.aload_n 0, 1) := by decide +kernel
theorem dX7_four__383 : decode cX7_four_ 383 = .ok (.iload 4, 2) := by decide +kernel
theorem dX7_four__385 : decode cX7_four_ 385 = .ok (.bipush 17, 2) := by decide +kernel
theorem dX7_four__387 : decode cX7_four_ 387 = .ok (.iconst 0, 1) := by decide +kernel
theorem dX7_four__388 : decode cX7_four_ 388 = .ok (.invokevirtual 181, 3) := by decide +kernel
theorem dX7_four__391 : decode cX7_four_ 391 = .ok (.aload_n 0, 1) := by decide +kernel
theorem dX7_four__392 : decode cX7_four_ 392 = .ok (.aload_n 0, 1) := by decide +kernel
theorem dX7_four__393 : decode cX7_four_ 393 = .ok (.getfield 58, 3) := by decide +kernel
theorem dX7_four__396 : decode cX7_four_ 396 = .ok (.iconst 0, 1) := by decide +kernel
theorem dX7_four__397 : decode cX7_four_ 397 = .ok (.aload_n 0, 1) := by decide +kernel
theorem dX7_four__398 : decode cX7_four_ 398 = .ok (.getfield 134, 3) := by decide +kernel
theorem dX7_four__401 : decode cX7_four_ 401 = .ok (.invokevirtual 206, 3) := by decide +kernel
theorem dX7_four__404 : decode cX7_four_ 404 = .ok (.aload_n 0, 1) := by decide +kernel
theorem dX7_four__405 : decode cX7_four_ 405 = .ok (.invokevirtual 177, 3) := by decide +kernel
theorem dX7_four__408 : decode cX7_four_ 408 = .ok (.istore 7, 2) := by decide +kernel
theorem dX7_four__410 : decode cX7_four_ 410 = .ok (.aload_n 0, 1) := by decide +kernel
theorem dX7_four__411 : decode cX7_four_ 411 = .ok (.getfield 58, 3) := by decide +kernel
theorem dX7_four__414 : decode cX7_four_ 414 = .ok (.bipush 6, 2) := by decide +kernel
theorem dX7_four__416 : decode cX7_four_ 416 = .ok (.iload 7, 2) := by decide +kernel
theorem dX7_four__418 : decode cX7_four_ 418 = .ok (.ifCond .ne 8, 3) := by decide +kernel
theorem dX7_four__421 : decode cX7_four_ 421 = .ok (.ldc 107, 2) := by decide +kernel
theorem dX7_four__423 : decode cX7_four_ 423 = .ok (.goto 5, 3) := by decide +kernel
theorem dX7_four__426 : decode cX7_four_ 426 = .ok (.iload 7, 2) := by decide +kernel
theorem dX7_four__428 : decode cX7_four_ 428 = .ok (.invokestatic 121, 3) := by decide +kernel
theorem dX7_four__431 : decode cX7_four_ 431 = .ok (.aload_n 0, 1) := by decide +kernel
theorem dX7_four__432 : decode cX7_four_ 432 = .ok (.getfield 194, 3) := by decide +kernel
theorem dX7_four__435 : decode cX7_four_ 435 = .ok (.ifCond .ne 10, 3) := by decide +kernel
theorem dX7_four__438 : decode cX7_four_ 438 = .ok (.aload_n 0, 1) := by decide +kernel
theorem dX7_four__439 : decode cX7_four_ 439 = .ok (.getfield 191, 3) := by decide +kernel
theorem dX7_four__442 : decode cX7_four_ 442 = .ok (.ifCond .le 7, 3) := by decide +kernel
theorem dX7_four__445 : decode cX7_four_ 445 = .ok (.iconst 1, 1) := by decide +kernel
theorem dX7_four__446 : decode cX7_four_ 446 = .ok (.goto 4, 3) := by decide +kernel
theorem dX7_four__449 : decode cX7_four_ 449 = .ok (.iconst 0, 1) := by decide +kernel
theorem dX7_four__450 : decode cX7_four_ 450 = .ok (.istore 7, 2) := by decide +kernel
theorem dX7_four__452 : decode cX7_four_ 452 = .ok (.bipush 40, 2) := by decide +kernel
theorem dX7_four__454 : decode cX7_four_ 454 = .ok (.iload 7, 2) := by decide +kernel
theorem dX7_four__456 : decode cX7_four_ 456 = .ok (.ifCond .eq 8, 3) := by decide +kernel
theorem dX7_four__459 : decode cX7_four_ 459 = .ok (.bipush 8, 2) := by decide +kernel
theorem dX7_four__461 : decode cX7_four_ 461 = .ok (.goto 4, 3) := by decide +kernel
theorem dX7_four__464 : decode cX7_four_ 464 = .ok (.iconst 0, 1) := by decide +kernel
theorem dX7_four__465 : decode cX7_four_ 465 = .ok (.iadd, 1) := by decide +kernel
theorem dX7_four__466 : decode cX7_four_ 466 = .ok (.aload_n 0, 1) := by decide +kernel
theorem dX7_four__467 : decode cX7_four_ 467 = .ok (.getfield 134, 3) := by decide +kernel
theorem dX7_four__470 : decode cX7_four_ 470 = .ok (.iadd, 1) := by decide +kernel
theorem dX7_four__471 : decode cX7_four_ 471 = .ok (.istore 8, 2) := by decide +kernel
theorem dX7_four__473 : decode cX7_four_ 473 = .ok (.aload_n 0, 1) := by decide +kernel
theorem dX7_four__474 : decode cX7_four_ 474 = .ok (.getfield 7, 3) := by decide +kernel
theorem dX7_four__477 : decode cX7_four_ 477 = .ok (.bipush 6, 2) := by decide +kernel
theorem dX7_four__479 : decode cX7_four_ 479 = .ok (.baload, 1) := by decide +kernel
theorem dX7_four__480 : decode cX7_four_ 480 = .ok (.bipush 64, 2) := by decide +kernel
theorem dX7_four__482 : decode cX7_four_ 482 = .ok (.iand, 1) := by decide +kernel
theorem dX7_four__483 : decode cX7_four_ 483 = .ok (.ifCond .eq 7, 3) := by decide +kernel
theorem dX7_four__486 : decode cX7_four_ 486 = .ok (.iconst 1, 1) := by decide +kernel
theorem dX7_four__487 : decode cX7_four_ 487 = .ok (.goto 4, 3) := by decide +kernel
theorem dX7_four__490 : decode cX7_four_ 490 = .ok (.iconst 0, 1) := by decide +kernel
theorem dX7_four__491 : decode cX7_four_ 491 = .ok (.istore 9, 2) := by decide +kernel
theorem dX7_four__493 : decode cX7_four_ 493 = .ok (.iload 9, 2) := by decide +kernel
theorem dX7_four__495 : decode cX7_four_ 495 = .ok (.ifCond .eq 26, 3) := by decide +kernel
theorem dX7_four__498 : decode cX7_four_ 498 = .ok (.iload 8, 2) := by decide +kernel
theorem dX7_four__500 : decode cX7_four_ 500 = .ok (.aload_n 0, 1) := by decide +kernel
theorem dX7_four__501 : decode cX7_four_ 501 = .ok (.getfield 38, 3) := by decide +kernel
theorem dX7_four__504 : decode cX7_four_ 504 = .ok (.if_icmp .le 17, 3) := by decide +kernel
theorem dX7_four__507 : decode cX7_four_ 507 = .ok (.aload_n 0, 1) := by decide +kernel
theorem dX7_four__508 : decode cX7_four_ 508 = .ok (.iconst 3, 1) := by decide +kernel
theorem dX7_four__509 : decode cX7_four_ 509 = .ok (.iconst 4, 1) := by decide +kernel
theorem dX7_four__510 : decode cX7_four_ 510 = .ok (.aload_n 0, 1) := by decide +kernel
theorem dX7_four__511 : decode cX7_four_ 511 = .ok (.getfield 38, 3) := by decide +kernel
theorem dX7_four__514 : decode cX7_four_ 514 = .ok (.bipush 20, 2) := by decide +kernel
theorem dX7_four__516 : decode cX7_four_ 516 = .ok (.isub, 1) := by decide +kernel
theorem dX7_four__517 : decode cX7_four_ 517 = .ok (.invokevirtual 236, 3) := by decide +kernel
theorem dX7_four__520 : decode cX7_four_ 520 = .ok (.ireturn, 1) := by decide +kernel
theorem dX7_four__521 : decode cX7_four_ 521 = .ok (.iload 9, 2) := by decide +kernel
theorem dX7_four__523 : decode cX7_four_ 523 = .ok (.ifCond .ne 15, 3) := by decide +kernel
theorem dX7_four__526 : decode cX7_four_ 526 = .ok (.iload 8, 2) := by decide +kernel
theorem dX7_four__528 : decode cX7_four_ 528 = .ok (.sipush 1280, 3) := by decide +kernel
theorem dX7_four__531 : decode cX7_four_ 531 = .ok (.if_icmp .le 7, 3) := by decide +kernel
theorem dX7_four__534 : decode cX7_four_ 534 = .ok (.iconst 1, 1) := by decide +kernel
theorem dX7_four__535 : decode cX7_four_ 535 = .ok (.goto 4, 3) := by decide +kernel
theorem dX7_four__538 : decode cX7_four_ 538 = .ok (.iconst 0, 1) := by decide +kernel
theorem dX7_four__539 : decode cX7_four_ 539 = .ok (.istore 10, 2) := by decide +kernel
theorem dX7_four__541 : decode cX7_four_ 541 = .ok (.iload 10, 2) := by decide +kernel
theorem dX7_four__543 : decode cX7_four_ 543 = .ok (.ifCond .eq 9, 3) := by decide +kernel
theorem dX7_four__546 : decode cX7_four_ 546 = .ok (.sipush 1232, 3) := by decide +kernel
theorem dX7_four__549 : decode cX7_four_ 549 = .ok (.goto 7, 3) := by decide +kernel
theorem dX7_four__552 : decode cX7_four_ 552 = .ok (.aload_n 0, 1) := by decide +kernel
theorem dX7_four__553 : decode cX7_four_ 553 = .ok (.getfield 134, 3) := by decide +kernel
theorem dX7_four__556 : decode cX7_four_ 556 = .ok (.istore 11, 2) := by decide +kernel
theorem dX7_four__558 : decode cX7_four_ 558 = .ok (.iconst 0, 1) := by decide +kernel
theorem dX7_four__559 : decode cX7_four_ 559 = .ok (.istore 12, 2) := by decide +kernel
theorem dX7_four__561 : decode cX7_four_ 561 = .ok (.aload_n 0, 1) := by decide +kernel
theorem dX7_four__562 : decode cX7_four_ 562 = .ok (.getfield 134, 3) := by decide +kernel
theorem dX7_four__565 : decode cX7_four_ 565 = .ok (.iload 12, 2) := by decide +kernel
theorem dX7_four__567 : decode cX7_four_ 567 = .ok (.isub, 1) := by decide +kernel
theorem dX7_four__568 : decode cX7_four_ 568 = .ok (.iload 11, 2) := by decide +kernel
theorem dX7_four__570 : decode cX7_four_ 570 = .ok (.if_icmp .ge 13, 3) := by decide +kernel
theorem dX7_four__573 : decode cX7_four_ 573 = .ok (.aload_n 0, 1) := by decide +kernel
theorem dX7_four__574 : decode cX7_four_ 574 = .ok (.getfield 134, 3) := by decide +kernel
theorem dX7_four__577 : decode cX7_four_ 577 = .ok (.iload 12, 2) := by decide +kernel
theorem dX7_four__579 : decode cX7_four_ 579 = .ok (.isub, 1) := by decide +kernel
theorem dX7_four__580 : decode cX7_four_ 580 = .ok (.goto 5, 3) := by decide +kernel
theorem dX7_four__583 : decode cX7_four_ 583 = .ok (.iload 11, 2) := by decide +kernel
theorem dX7_four__585 : decode cX7_four_ 585 = .ok (.istore 13, 2) := by decide +kernel
theorem dX7_four__587 : decode cX7_four_ 587 = .ok (.aload_n 0, 1) := by decide +kernel
theorem dX7_four__588 : decode cX7_four_ 588 = .ok (.bipush 40, 2) := by decide +kernel
theorem dX7_four__590 : decode cX7_four_ 590 = .ok (.iload 7, 2) := by decide +kernel
theorem dX7_four__592 : decode cX7_four_ 592 = .ok (.ifCond .ne 8, 3) := by decide +kernel
theorem dX7_four__595 : decode cX7_four_ 595 = .ok (.iload 10, 2) := by decide +kernel
theorem dX7_four__597 : decode cX7_four_ 597 = .ok (.ifCond .eq 8, 3) := by decide +kernel
theorem dX7_four__600 : decode cX7_four_ 600 = .ok (.bipush 8, 2) := by decide +kernel
theorem dX7_four__602 : decode cX7_four_ 602 = .ok (.goto 4, 3) := by decide +kernel
theorem dX7_four__605 : decode cX7_four_ 605 = .ok (.iconst 0, 1) := by decide +kernel
theorem dX7_four__606 : decode cX7_four_ 606 = .ok (.iadd, 1) := by decide +kernel
theorem dX7_four__607 : decode cX7_four_ 607 = .ok (.iload 13, 2) := by decide +kernel
theorem dX7_four__609 : decode cX7_four_ 609 = .ok (.iadd, 1) := by decide +kernel
theorem dX7_four__610 : decode cX7_four_ 610 = .ok (.invokevirtual 217, 3) := by decide +kernel
theorem dX7_four__613 : decode cX7_four_ 613 = .ok (.istore 14, 2) := by decide +kernel
theorem dX7_four__615 : decode cX7_four_ 615 = .ok (.aload_n 0, 1) := by decide +kernel
theorem dX7_four__616 : decode cX7_four_ 616 = .ok (.iload 14, 2) := by decide +kernel
theorem dX7_four__618 : decode cX7_four_ 618 = .ok (.aload_n 0, 1) := by decide +kernel
theorem dX7_four__619 : decode cX7_four_ 619 = .ok (.getfield 7, 3) := by decide +kernel
theorem dX7_four__622 : decode cX7_four_ 622 = .ok (.iconst 1, 1) := by decide +kernel
theorem dX7_four__623 : decode cX7_four_ 623 = .ok (.invokestatic 111, 3) := by decide +kernel
theorem dX7_four__626 : decode cX7_four_ 626 = .ok (.aload_n 0, 1) := by decide +kernel
theorem dX7_four__627 : decode cX7_four_ 627 = .ok (.getfield 128, 3) := by decide +kernel
theorem dX7_four__630 : decode cX7_four_ 630 = .ok (.iload 14, 2) := by decide +kernel
theorem dX7_four__632 : decode cX7_four_ 632 = .ok (.isub, 1) := by decide +kernel
theorem dX7_four__633 : decode cX7_four_ 633 = .ok (.bipush 40, 2) := by decide +kernel
theorem dX7_four__635 : decode cX7_four_ 635 = .ok (.isub, 1) := by decide +kernel
theorem dX7_four__636 : decode cX7_four_ 636 = .ok (.iload_n 3, 1) := by decide +kernel
theorem dX7_four__637 : decode cX7_four_ 637 = .ok (.iconst 1, 1) := by decide +kernel
theorem dX7_four__638 : decode cX7_four_ 638 = .ok (.isub, 1) := by decide +kernel
theorem dX7_four__639 : decode cX7_four_ 639 = .ok (.iload 7, 2) := by decide +kernel
theorem dX7_four__641 : decode cX7_four_ 641 = .ok (.ifCond .ne 8, 3) := by decide +kernel
theorem dX7_four__644 : decode cX7_four_ 644 = .ok (.iload 10, 2) := by decide +kernel
theorem dX7_four__646 : decode cX7_four_ 646 = .ok (.ifCond .eq 7, 3) := by decide +kernel
theorem dX7_four__649 : decode cX7_four_ 649 = .ok (.iconst 1, 1) := by decide +kernel
theorem dX7_four__650 : decode cX7_four_ 650 = .ok (.goto 4, 3) := by decide +kernel
theorem dX7_four__653 : decode cX7_four_ 653 = .ok (.iconst 0, 1) := by decide +kernel
theorem dX7_four__654 : decode cX7_four_ 654 = .ok (.aload_n 0, 1) := by decide +kernel
theorem dX7_four__655 : decode cX7_four_ 655 = .ok (.getfield 191, 3) := by decide +kernel
theorem dX7_four__658 : decode cX7_four_ 658 = .ok (.iload 12, 2) := by decide +kernel
theorem dX7_four__660 : decode cX7_four_ 660 = .ok (.iadd, 1) := by decide +kernel
theorem dX7_four__661 : decode cX7_four_ 661 = .ok (.iload 12, 2) := by decide +kernel
theorem dX7_four__663 : decode cX7_four_ 663 = .ok (.iload 13, 2) := by decide +kernel
theorem dX7_four__665 : decode cX7_four_ 665 = .ok (.iadd, 1) := by decide +kernel
theorem dX7_four__666 : decode cX7_four_ 666 = .ok (.aload_n 0, 1) := by decide +kernel
theorem dX7_four__667 : decode cX7_four_ 667 = .ok (.getfield 134, 3) := by decide +kernel
theorem dX7_four__670 : decode cX7_four_ 670 = .ok (.if_icmp .lt 10, 3) := by decide +kernel
theorem dX7_four__673 : decode cX7_four_ 673 = .ok (.aload_n 0, 1) := by decide +kernel
theorem dX7_four__674 : decode cX7_four_ 674 = .ok (.getfield 194, 3) := by decide +kernel
theorem dX7_four__677 : decode cX7_four_ 677 = .ok (.ifCond .eq 7, 3) := by decide +kernel
theorem dX7_four__680 : decode cX7_four_ 680 = .ok (.iconst 1, 1) := by decide +kernel
theorem dX7_four__681 : decode cX7_four_ 681 = .ok (.goto 4, 3) := by decide +kernel
theorem dX7_four__684 : decode cX7_four_ 684 = .ok (.iconst 0, 1) := by decide +kernel
theorem dX7_four__685 : decode cX7_four_ 685 = .ok (.aload_n 0, 1) := by decide +kernel
theorem dX7_four__686 : decode cX7_four_ 686 = .ok (.getfield 7, 3) := by decide +kernel
theorem dX7_four__689 : decode cX7_four_ 689 = .ok (.iconst 4, 1) := by decide +kernel
theorem dX7_four__690 : decode cX7_four_ 690 = .ok (.invokestatic 115, 3) := by decide +kernel
theorem dX7_four__693 : decode cX7_four_ 693 = .ok (.invokevirtual 260, 3) := by decide +kernel
theorem dX7_four__696 : decode cX7_four_ 696 = .ok (.iconst 0, 1) := by decide +kernel
theorem dX7_four__697 : decode cX7_four_ 697 = .ok (.istore 15, 2) := by decide +kernel
theorem dX7_four__699 : decode cX7_four_ 699 = .ok (.iload 15, 2) := by decide +kernel
theorem dX7_four__701 : decode cX7_four_ 701 = .ok (.iload 13, 2) := by decide +kernel
theorem dX7_four__703 : decode cX7_four_ 703 = .ok (.if_icmp .ge 34, 3) := by decide +kernel
theorem dX7_four__706 : decode cX7_four_ 706 = .ok (.aload_n 0, 1) := by decide +kernel
theorem dX7_four__707 : decode cX7_four_ 707 = .ok (.getfield 52, 3) := by decide +kernel
theorem dX7_four__710 : decode cX7_four_ 710 = .ok (.aload_n 0, 1) := by decide +kernel
theorem dX7_four__711 : decode cX7_four_ 711 = .ok (.getfield 128, 3) := by decide +kernel
theorem dX7_four__714 : decode cX7_four_ 714 = .ok (.iload 13, 2) := by decide +kernel
theorem dX7_four__716 : decode cX7_four_ 716 = .ok (.isub, 1) := by decide +kernel
theorem dX7_four__717 : decode cX7_four_ 717 = .ok (.iload 15, 2) := by decide +kernel
theorem dX7_four__719 : decode cX7_four_ 719 = .ok (.iadd, 1) := by decide +kernel
theorem dX7_four__720 : decode cX7_four_ 720 = .ok (.aload_n 0, 1) := by decide +kernel
theorem dX7_four__721 : decode cX7_four_ 721 = .ok (.getfield 58, 3) := by decide +kernel
theorem dX7_four__724 : decode cX7_four_ 724 = .ok (.iload 12, 2) := by decide +kernel
theorem dX7_four__726 : decode cX7_four_ 726 = .ok (.iload 15, 2) := by decide +kernel
theorem dX7_four__728 : decode cX7_four_ 728 = .ok (.iadd, 1) := by decide +kernel
theorem dX7_four__729 : decode cX7_four_ 729 = .ok (.baload, 1) := by decide +kernel
theorem dX7_four__730 : decode cX7_four_ 730 = .ok (.bastore, 1) := by decide +kernel
theorem dX7_four__731 : decode cX7_four_ 731 = .ok (.iinc 15 1, 3) := by decide +kernel
theorem dX7_four__734 : decode cX7_four_ 734 = .ok (.goto (-35), 3) := by decide +kernel
theorem dX7_four__737 : decode cX7_four_ 737 = .ok (.aload_n 0, 1) := by decide +kernel
theorem dX7_four__738 : decode cX7_four_ 738 = .ok (.invokevirtual 223, 3) := by decide +kernel
theorem dX7_four__741 : decode cX7_four_ 741 = .ok (.iload 12, 2) := by decide +kernel
theorem dX7_four__743 : decode cX7_four_ 743 = .ok (.iload 13, 2) := by decide +kernel
theorem dX7_four__745 : decode cX7_four_ 745 = .ok (.iadd, 1) := by decide +kernel
theorem dX7_four__746 : decode cX7_four_ 746 = .ok (.istore 12, 2) := by decide +kernel
theorem dX7_four__748 : decode cX7_four_ 748 = .ok (.iload 12, 2) := by decide +kernel
theorem dX7_four__750 : decode cX7_four_ 750 = .ok (.aload_n 0, 1) := by decide +kernel
theorem dX7_four__751 : decode cX7_four_ 751 = .ok (.getfield 134, 3) := by decide +kernel
theorem dX7_four__754 : decode cX7_four_ 754 = .ok (.if_icmp .lt (-193), 3) := by decide +kernel
theorem dX7_four__757 : decode cX7_four_ 757 = .ok (.aload_n 0, 1) := by decide +kernel
theorem dX7_four__758 : decode cX7_four_ 758 = .ok (.iconst 0, 1) := by decide +kernel
theorem dX7_four__759 : decode cX7_four_ 759 = .ok (.invokevirtual 213, 3) := by decide +kernel
theorem dX7_four__762 : decode cX7_four_ 762 = .ok (.ireturn, 1) := by decide +kernel
theorem dX7_head6_0 : decode cX7_head6 0 = .ok (.aload_n 0, 1) := by decide +kernel
theorem dX7_head6_1 : decode cX7_head6 1 = .ok (.getfield 197, 3) := by decide +kernel
theorem dX7_head6_4 : decode cX7_head6 4 = .ok (.iconst 1, 1) := by decide +kernel
theorem dX7_head6_5 : decode cX7_head6 5 = .ok (.if_icmp .ne 8, 3) := by decide +kernel
theorem dX7_head6_8 : decode cX7_head6 8 = .ok (.bipush 58, 2) := by decide +kernel
theorem dX7_head6_10 : decode cX7_head6 10 = .ok (.goto 7, 3) := by decide +kernel
theorem dX7_head6_13 : decode cX7_head6 13 = .ok (.aload_n 0, 1) := by decide +kernel
theorem dX7_head6_14 : decode cX7_head6 14 = .ok (.getfield 197, 3) := by decide +kernel
theorem dX7_head6_17 : decode cX7_head6 17 = .ok (.istore 9, 2) := by decide +kernel
theorem dX7_head6_19 : decode cX7_head6 19 = .ok (.aload_n 0, 1) := by decide +kernel
theorem dX7_head6_20 : decode cX7_head6 20 = .ok (.getfield 52, 3) := by decide +kernel
theorem dX7_head6_23 : decode cX7_head6 23 = .ok (.iload_n 1, 1) := by decide +kernel
theorem dX7_head6_24 : decode cX7_head6 24 = .ok (.ldc_w 264, 3) := by decide +kernel
theorem dX7_head6_27 : decode cX7_head6 27 = .ok (.aload_n 0, 1) := by decide +kernel
theorem dX7_head6_28 : decode cX7_head6 28 = .ok (.getfield 41, 3) := by decide +kernel
theorem dX7_head6_31 : decode cX7_head6 31 = .ok (.ifCond .eq 10, 3) := by decide +kernel
theorem dX7_head6_34 : decode cX7_head6 34 = .ok (.iload_n 2, 1) := by decide +kernel
theorem dX7_head6_35 : decode cX7_head6 35 = .ok (.bipush 20, 2) := by decide +kernel
theorem dX7_head6_37 : decode cX7_head6 37 = .ok (.ishl, 1) := by decide +kernel
theorem dX7_head6_38 : decode cX7_head6 38 = .ok (.goto 4, 3) := by decide +kernel
theorem dX7_head6_41 : decode cX7_head6 41 = .ok (.iconst 0, 1) := by decide +kernel
theorem dX7_head6_42 : decode cX7_head6 42 = .ok (.ior, 1) := by decide +kernel
theorem dX7_head6_43 : decode cX7_head6 43 = .ok (.invokestatic 125, 3) := by decide +kernel
theorem dX7_head6_46 : decode cX7_head6 46 = .ok (.aload_n 0, 1) := by decide +kernel
theorem dX7_head6_47 : decode cX7_head6 47 = .ok (.getfield 52, 3) := by decide +kernel
theorem dX7_head6_50 : decode cX7_head6 50 = .ok (.iload_n 1, 1) := by decide +kernel
theorem dX7_head6_51 : decode cX7_head6 51 = .ok (.iconst 4, 1) := by decide +kernel
theorem dX7_head6_52 : decode cX7_head6 52 = .ok (.iadd, 1) := by decide +kernel
theorem dX7_head6_53 : decode cX7_head6 53 = .ok (.iload_n 3, 1) := by decide +kernel
theorem dX7_head6_54 : decode cX7_head6 54 = .ok (.invokestatic 121, 3) := by decide +kernel
theorem dX7_head6_57 : decode cX7_head6 57 = .ok (.aload_n 0, 1) := by decide +kernel
theorem dX7_head6_58 : decode cX7_head6 58 = .ok (.getfield 52, 3) := by decide +kernel
theorem dX7_head6_61 : decode cX7_head6 61 = .ok (.iload_n 1, 1) := by decide +kernel
theorem dX7_head6_62 : decode cX7_head6 62 = .ok (.bipush 6, 2) := by decide +kernel
theorem dX7_head6_64 : decode cX7_head6 64 = .ok (.iadd, 1) := by decide +kernel
theorem dX7_head6_65 : decode cX7_head6 65 = .ok (.iload 5, 2) := by decide +kernel
theorem dX7_head6_67 : decode cX7_head6 67 = .ok (.ifCond .eq 8, 3) := by decide +kernel
theorem dX7_head6_70 : decode cX7_head6 70 = .ok (.bipush 44, 2) := by decide +kernel
theorem dX7_head6_72 : decode cX7_head6 72 = .ok (.goto 5, 3) := by decide +kernel
theorem dX7_head6_75 : decode cX7_head6 75 = .ok (.iload 9, 2) := by decide +kernel
theorem dX7_head6_77 : decode cX7_head6 77 = .ok (.i2b, 1) := by decide +kernel
theorem dX7_head6_78 : decode cX7_head6 78 = .ok (.bastore, 1) := by decide +kernel
theorem dX7_head6_79 : decode cX7_head6 79 = .ok (.aload_n 0, 1) := by decide +kernel
theorem dX7_head6_80 : decode cX7_head6 80 = .ok (.getfield 52, 3) := by decide +kernel
theorem dX7_head6_83 : decode cX7_head6 83 = .ok (.iload_n 1, 1) := by decide +kernel
theorem dX7_head6_84 : decode cX7_head6 84 = .ok (.bipush 7, 2) := by decide +kernel
theorem dX7_head6_86 : decode cX7_head6 86 = .ok (.iadd, 1) := by decide +kernel
theorem dX7_head6_87 : decode cX7_head6 87 = .ok (.iload 4, 2) := by decide +kernel
theorem dX7_head6_89 : decode cX7_head6 89 = .ok (.i2b, 1) := by decide +kernel
theorem dX7_head6_90 : decode cX7_head6 90 = .ok (.bastore, 1) := by decide +kernel
theorem dX7_head6_91 : decode cX7_head6 91 = .ok (.aload_n 0, 1) := by decide +kernel
theorem dX7_head6_92 : decode cX7_head6 92 = .ok (.getfield 52, 3) := by decide +kernel
theorem dX7_head6_95 : decode cX7_head6 95 = .ok (.iload_n 1, 1) := by decide +kernel
theorem dX7_head6_96 : decode cX7_head6 96 = .ok (.bipush 8, 2) := by decide +kernel
theorem dX7_head6_98 : decode cX7_head6 98 = .ok (.iadd, 1) := by decide +kernel
theorem dX7_head6_99 : decode cX7_head6 99 = .ok (.aload_n 0, 1) := by decide +kernel
theorem dX7_head6_100 : decode cX7_head6 100 = .ok (.getfield 143, 3) := by decide +kernel
theorem dX7_head6_103 : decode cX7_head6 103 = .ok (.invokestatic 265, 3) := by decide +kernel
theorem dX7_head6_106 : decode cX7_head6 106 = .ok (.aload_n 0, 1) := by decide +kernel
theorem dX7_head6_107 : decode cX7_head6 107 = .ok (.getfield 52, 3) := by decide +kernel
theorem dX7_head6_110 : decode cX7_head6 110 = .ok (.iload_n 1, 1) := by decide +kernel
theorem dX7_head6_111 : decode cX7_head6 111 = .ok (.bipush 16, 2) := by decide +kernel
theorem dX7_head6_113 : decode cX7_head6 113 = .ok (.iadd, 1) := by decide +kernel
theorem dX7_head6_114 : decode cX7_head6 114 = .ok (.aload_n 0, 1) := by decide +kernel
theorem dX7_head6_115 : decode cX7_head6 115 = .ok (.getfield 146, 3) := by decide +kernel
theorem dX7_head6_118 : decode cX7_head6 118 = .ok (.invokestatic 265, 3) := by decide +kernel
theorem dX7_head6_121 : decode cX7_head6 121 = .ok (.aload_n 0, 1) := by decide +kernel
theorem dX7_head6_122 : decode cX7_head6 122 = .ok (.getfield 52, 3) := by decide +kernel
theorem dX7_head6_125 : decode cX7_head6 125 = .ok (.iload_n 1, 1) := by decide +kernel
theorem dX7_head6_126 : decode cX7_head6 126 = .ok (.bipush 24, 2) := by decide +kernel
theorem dX7_head6_128 : decode cX7_head6 128 = .ok (.iadd, 1) := by decide +kernel
theorem dX7_head6_129 : decode cX7_head6 129 = .ok (.aload_n 0, 1) := by decide +kernel
theorem dX7_head6_130 : decode cX7_head6 130 = .ok (.getfield 149, 3) := by decide +kernel
theorem dX7_head6_133 : decode cX7_head6 133 = .ok (.invokestatic 265, 3) := by decide +kernel
theorem dX7_head6_136 : decode cX7_head6 136 = .ok (.aload_n 0, 1) := by decide +kernel
theorem dX7_head6_137 : decode cX7_head6 137 = .ok (.getfield 52, 3) := by decide +kernel
theorem dX7_head6_140 : decode cX7_head6 140 = .ok (.iload_n 1, 1) := by decide +kernel
theorem dX7_head6_141 : decode cX7_head6 141 = .ok (.bipush 32, 2) := by decide +kernel
theorem dX7_head6_143 : decode cX7_head6 143 = .ok (.iadd, 1) := by decide +kernel
theorem dX7_head6_144 : decode cX7_head6 144 = .ok (.aload_n 0, 1) := by decide +kernel
theorem dX7_head6_145 : decode cX7_head6 145 = .ok (.getfield 152, 3) := by decide +kernel
theorem dX7_head6_148 : decode cX7_head6 148 = .ok (.invokestatic 265, 3) := by decide +kernel
theorem dX7_head6_151 : decode cX7_head6 151 = .ok (.iload 5, 2) := by decide +kernel
theorem dX7_head6_153 : decode cX7_head6 153 = .ok (.ifCond .ne 4, 3) := by decide +kernel
theorem dX7_head6_156 : decode cX7_head6 156 = .ok (.return_, 1) := by decide +kernel
theorem dX7_head6_157 : decode cX7_head6 157 = .ok (.aload_n 0, 1) := by decide +kernel
theorem dX7_head6_158 : decode cX7_head6 158 = .ok (.getfield 52, 3) := by decide +kernel
theorem dX7_head6_161 : decode cX7_head6 161 = .ok (.iload_n 1, 1) := by decide +kernel
theorem dX7_head6_162 : decode cX7_head6 162 = .ok (.bipush 40, 2) := by decide +kernel
theorem dX7_head6_164 : decode cX7_head6 164 = .ok (.iadd, 1) := by decide +kernel
theorem dX7_head6_165 : decode cX7_head6 165 = .ok (.iload 9, 2) := by decide +kernel
theorem dX7_head6_167 : decode cX7_head6 167 = .ok (.i2b, 1) := by decide +kernel
theorem dX7_head6_168 : decode cX7_head6 168 = .ok (.bastore, 1) := by decide +kernel
theorem dX7_head6_169 : decode cX7_head6 169 = .ok (.aload_n 0, 1) := by decide +kernel
theorem dX7_head6_170 : decode cX7_head6 170 = .ok (.getfield 52, 3) := by decide +kernel
theorem dX7_head6_173 : decode cX7_head6 173 = .ok (.iload_n 1, 1) := by decide +kernel
theorem dX7_head6_174 : decode cX7_head6 174 = .ok (.bipush 42, 2) := by decide +kernel
theorem dX7_head6_176 : decode cX7_head6 176 = .ok (.iadd, 1) := by decide +kernel
theorem dX7_head6_177 : decode cX7_head6 177 = .ok (.iload 6, 2) := by decide +kernel
theorem dX7_head6_179 : decode cX7_head6 179 = .ok (.iload 7, 2) := by decide +kernel
theorem dX7_head6_181 : decode cX7_head6 181 = .ok (.ifCond .eq 7, 3) := by decide +kernel
theorem dX7_head6_184 : decode cX7_head6 184 = .ok (.iconst 1, 1) := by decide +kernel
theorem dX7_head6_185 : decode cX7_head6 185 = .ok (.goto 4, 3) := by decide +kernel
theorem dX7_head6_188 : decode cX7_head6 188 = .ok (.iconst 0, 1) := by decide +kernel
theorem dX7_head6_189 : decode cX7_head6 189 = .ok (.ior, 1) := by decide +kernel
theorem dX7_head6_190 : decode cX7_head6 190 = .ok (.invokestatic 121, 3) := by decide +kernel
theorem dX7_head6_193 : decode cX7_head6 193 = .ok (.aload_n 0, 1) := by decide +kernel
theorem dX7_head6_194 : decode cX7_head6 194 = .ok (.getfield 52, 3) := by decide +kernel
theorem dX7_head6_197 : decode cX7_head6 197 = .ok (.iload_n 1, 1) := by decide +kernel
theorem dX7_head6_198 : decode cX7_head6 198 = .ok (.bipush 44, 2) := by decide +kernel
theorem dX7_head6_200 : decode cX7_head6 200 = .ok (.iadd, 1) := by decide +kernel
theorem dX7_head6_201 : decode cX7_head6 201 = .ok (.iload 8, 2) := by decide +kernel
theorem dX7_head6_203 : decode cX7_head6 203 = .ok (.invokestatic 125, 3) := by decide +kernel
theorem dX7_head6_206 : decode cX7_head6 206 = .ok (.return_, 1) := by decide +kernel
theorem dX7_carried_0 : decode cX7_carried 0 = .ok (.aload_n 0, 1) := by decide +kernel
theorem dX7_carried_1 : decode cX7_carried 1 = .ok (.getfield 197, 3) := by decide +kernel
theorem dX7_carried_4 : decode cX7_carried 4 = .ok (.bipush 17, 2) := by decide +kernel
theorem dX7_carried_6 : decode cX7_carried 6 = .ok (.if_icmp .eq 21, 3) := by decide +kernel
theorem dX7_carried_9 : decode cX7_carried 9 = .ok (.aload_n 0, 1) := by decide +kernel
theorem dX7_carried_10 : decode cX7_carried 10 = .ok (.getfield 197, 3) := by decide +kernel
theorem dX7_carried_13 : decode cX7_carried 13 = .ok (.bipush 6, 2) := by decide +kernel
theorem dX7_carried_15 : decode cX7_carried 15 = .ok (.if_icmp .eq 12, 3) := by decide +kernel
theorem dX7_carried_18 : decode cX7_carried 18 = .ok (.aload_n 0, 1) := by decide +kernel
theorem dX7_carried_19 : decode cX7_carried 19 = .ok (.getfield 197, 3) := by decide +kernel
theorem dX7_carried_22 : decode cX7_carried 22 = .ok (.iload 4, 2) := by decide +kernel
theorem dX7_carried_24 : decode cX7_carried 24 = .ok (.if_icmp .ne 7, 3) := by decide +kernel
theorem dX7_carried_27 : decode cX7_carried 27 = .ok (.iconst 1, 1) := by decide +kernel
theorem dX7_carried_28 : decode cX7_carried 28 = .ok (.goto 4, 3) := by decide +kernel
theorem dX7_carried_31 : decode cX7_carried 31 = .ok (.iconst 0, 1) := by decide +kernel
theorem dX7_carried_32 : decode cX7_carried 32 = .ok (.istore 5, 2) := by decide +kernel
theorem dX7_carried_34 : decode cX7_carried 34 = .ok (.iload 5, 2) := by decide +kernel
theorem dX7_carried_36 : decode cX7_carried 36 = .ok (.ifCond .ne 5, 3) := by decide +kernel
theorem dX7_carried_39 : decode cX7_carried 39 = .ok (.iconst 0, 1) := by decide +kernel
theorem dX7_carried_40 : decode cX7_carried 40 = .ok (.ireturn, 1) := by decide +kernel
theorem dX7_carried_41 : decode cX7_carried 41 = .ok (.iload_n 2, 1) := by decide +kernel
theorem dX7_carried_42 : decode cX7_carried 42 = .ok (.bipush 8, 2) := by decide +kernel
theorem dX7_carried_44 : decode cX7_carried 44 = .ok (.if_icmp .lt 18, 3) := by decide +kernel
theorem dX7_carried_47 : decode cX7_carried 47 = .ok (.aload_n 0, 1) := by decide +kernel
theorem dX7_carried_48 : decode cX7_carried 48 = .ok (.getfield 197, 3) := by decide +kernel
theorem dX7_carried_51 : decode cX7_carried 51 = .ok (.bipush 6, 2) := by decide +kernel
theorem dX7_carried_53 : decode cX7_carried 53 = .ok (.if_icmp .ne 11, 3) := by decide +kernel
theorem dX7_carried_56 : decode cX7_carried 56 = .ok (.iload_n 2, 1) := by decide +kernel
theorem dX7_carried_57 : decode cX7_carried 57 = .ok (.bipush 20, 2) := by decide +kernel
theorem dX7_carried_59 : decode cX7_carried 59 = .ok (.if_icmp .ge 5, 3) := by decide +kernel
theorem dX7_carried_62 : decode cX7_carried 62 = .ok (.iconst 4, 1) := by decide +kernel
theorem dX7_carried_63 : decode cX7_carried 63 = .ok (.ireturn, 1) := by decide +kernel
theorem dX7_carried_64 : decode cX7_carried 64 = .ok (.aload_n 0, 1) := by decide +kernel
theorem dX7_carried_65 : decode cX7_carried 65 = .ok (.getfield 197, 3) := by decide +kernel
theorem dX7_carried_68 : decode cX7_carried 68 = .ok (.bipush 17, 2) := by decide +kernel
theorem dX7_carried_70 : decode cX7_carried 70 = .ok (.if_icmp .ne 25, 3) := by decide +kernel
theorem dX7_carried_73 : decode cX7_carried 73 = .ok (.iload_n 3, 1) := by decide +kernel
theorem dX7_carried_74 : decode cX7_carried 74 = .ok (.ifCond .ne 21, 3) := by decide +kernel
theorem dX7_carried_77 : decode cX7_carried 77 = .ok (.aload_n 0, 1) := by decide +kernel
theorem dX7_carried_78 : decode cX7_carried 78 = .ok (.getfield 7, 3) := by decide +kernel
theorem dX7_carried_81 : decode cX7_carried 81 = .ok (.iload_n 1, 1) := by decide +kernel
theorem dX7_carried_82 : decode cX7_carried 82 = .ok (.iconst 4, 1) := by decide +kernel
theorem dX7_carried_83 : decode cX7_carried 83 = .ok (.iadd, 1) := by decide +kernel
theorem dX7_carried_84 : decode cX7_carried 84 = .ok (.invokestatic 115, 3) := by decide +kernel
theorem dX7_carried_87 : decode cX7_carried 87 = .ok (.iload_n 2, 1) := by decide +kernel
theorem dX7_carried_88 : decode cX7_carried 88 = .ok (.if_icmp .eq 7, 3) := by decide +kernel
theorem dX7_carried_91 : decode cX7_carried 91 = .ok (.iconst 4, 1) := by decide +kernel
theorem dX7_carried_92 : decode cX7_carried 92 = .ok (.goto 4, 3) := by decide +kernel
theorem dX7_carried_95 : decode cX7_carried 95 = .ok (.iconst 0, 1) := by decide +kernel
theorem dX7_carried_96 : decode cX7_carried 96 = .ok (.ireturn, 1) := by decide +kernel
theorem dX7_error_0 : decode cX7_error 0 = .ok (.aload_n 0, 1) := by decide +kernel
theorem dX7_error_1 : decode cX7_error 1 = .ok (.iload_n 1, 1) := by decide +kernel
theorem dX7_error_2 : decode cX7_error 2 = .ok (.putfield 269, 3) := by decide +kernel
theorem dX7_error_5 : decode cX7_error 5 = .ok (.aload_n 0, 1) := by decide +kernel
theorem dX7_error_6 : decode cX7_error 6 = .ok (.iload_n 2, 1) := by decide +kernel
theorem dX7_error_7 : decode cX7_error 7 = .ok (.putfield 272, 3) := by decide +kernel
theorem dX7_error_10 : decode cX7_error 10 = .ok (.aload_n 0, 1) := by decide +kernel
theorem dX7_error_11 : decode cX7_error 11 = .ok (.iload_n 3, 1) := by decide +kernel
theorem dX7_error_12 : decode cX7_error 12 = .ok (.putfield 275, 3) := by decide +kernel
theorem dX7_error_15 : decode cX7_error 15 = .ok (.return_, 1) := by decide +kernel
theorem dX7_toSix_0 : decode cX7_toSix 0 = .ok (.aload_n 0, 1) := by decide +kernel
theorem dX7_toSix_1 : decode cX7_toSix 1 = .ok (.getfield 58, 3) := by decide +kernel
theorem dX7_toSix_4 : decode cX7_toSix 4 = .ok (.iconst 0, 1) := by decide +kernel
theorem dX7_toSix_5 : decode cX7_toSix 5 = .ok (.invokestatic 111, 3) := by decide +kernel
theorem dX7_toSix_8 : decode cX7_toSix 8 = .ok (.istore_n 2, 1) := by decide +kernel
theorem dX7_toSix_9 : decode cX7_toSix 9 = .ok (.iload_n 2, 1) := by decide +kernel
theorem dX7_toSix_10 : decode cX7_toSix 10 = .ok (.bipush 8, 2) := by decide +kernel
theorem dX7_toSix_12 : decode cX7_toSix 12 = .ok (.if_icmp .eq 7, 3) := by decide +kernel
theorem dX7_toSix_15 : decode cX7_toSix 15 = .ok (.iload_n 2, 1) := by decide +kernel
theorem dX7_toSix_16 : decode cX7_toSix 16 = .ok (.ifCond .ne 16, 3) := by decide +kernel
theorem dX7_toSix_19 : decode cX7_toSix 19 = .ok (.aload_n 0, 1) := by decide +kernel
theorem dX7_toSix_20 : decode cX7_toSix 20 = .ok (.aload_n 0, 1) := by decide +kernel
theorem dX7_toSix_21 : decode cX7_toSix 21 = .ok (.getfield 58, 3) := by decide +kernel
theorem dX7_toSix_24 : decode cX7_toSix 24 = .ok (.iconst 0, 1) := by decide +kernel
theorem dX7_toSix_25 : decode cX7_toSix 25 = .ok (.iload_n 1, 1) := by decide +kernel
theorem dX7_toSix_26 : decode cX7_toSix 26 = .ok (.iconst 1, 1) := by decide +kernel
theorem dX7_toSix_27 : decode cX7_toSix 27 = .ok (.invokevirtual 278, 3) := by decide +kernel
theorem dX7_toSix_30 : decode cX7_toSix 30 = .ok (.iconst 0, 1) := by decide +kernel
theorem dX7_toSix_31 : decode cX7_toSix 31 = .ok (.ireturn, 1) := by decide +kernel
theorem dX7_toSix_32 : decode cX7_toSix 32 = .ok (.iload_n 2, 1) := by decide +kernel
theorem dX7_toSix_33 : decode cX7_toSix 33 = .ok (.iconst 3, 1) := by decide +kernel
theorem dX7_toSix_34 : decode cX7_toSix 34 = .ok (.if_icmp .eq 18, 3) := by decide +kernel
theorem dX7_toSix_37 : decode cX7_toSix 37 = .ok (.iload_n 2, 1) := by decide +kernel
theorem dX7_toSix_38 : decode cX7_toSix 38 = .ok (.bipush 11, 2) := by decide +kernel
theorem dX7_toSix_40 : decode cX7_toSix 40 = .ok (.if_icmp .eq 12, 3) := by decide +kernel
theorem dX7_toSix_43 : decode cX7_toSix 43 = .ok (.iload_n 2, 1) := by decide +kernel
theorem dX7_toSix_44 : decode cX7_toSix 44 = .ok (.bipush 12, 2) := by decide +kernel
theorem dX7_toSix_46 : decode cX7_toSix 46 = .ok (.if_icmp .eq 6, 3) := by decide +kernel
theorem dX7_toSix_49 : decode cX7_toSix 49 = .ok (.bipush 6, 2) := by decide +kernel
theorem dX7_toSix_51 : decode cX7_toSix 51 = .ok (.ireturn, 1) := by decide +kernel
theorem dX7_toSix_52 : decode cX7_toSix 52 = .ok (.aload_n 0, 1) := by decide +kernel
theorem dX7_toSix_53 : decode cX7_toSix 53 = .ok (.lconst 0, 1) := by decide +kernel
theorem dX7_toSix_54 : decode cX7_toSix 54 = .ok (.putfield 102, 3) := by decide +kernel
theorem dX7_toSix_57 : decode cX7_toSix 57 = .ok (.aload_n 0, 1) := by decide +kernel
theorem dX7_toSix_58 : decode cX7_toSix 58 = .ok (.aload_n 0, 1) := by decide +kernel
theorem dX7_toSix_59 : decode cX7_toSix 59 = .ok (.getfield 58, 3) := by decide +kernel
theorem dX7_toSix_62 : decode cX7_toSix 62 = .ok (.iconst 0, 1) := by decide +kernel
theorem dX7_toSix_63 : decode cX7_toSix 63 = .ok (.iload_n 1, 1) := by decide +kernel
theorem dX7_toSix_64 : decode cX7_toSix 64 = .ok (.invokevirtual 206, 3) := by decide +kernel
theorem dX7_toSix_67 : decode cX7_toSix 67 = .ok (.aload_n 0, 1) := by decide +kernel
theorem dX7_toSix_68 : decode cX7_toSix 68 = .ok (.getfield 102, 3) := by decide +kernel
theorem dX7_toSix_71 : decode cX7_toSix 71 = .ok (.ldc2_w 105, 3) := by decide +kernel
theorem dX7_toSix_74 : decode cX7_toSix 74 = .ok (.lcmp, 1) := by decide +kernel
theorem dX7_toSix_75 : decode cX7_toSix 75 = .ok (.ifCond .eq 5, 3) := by decide +kernel
theorem dX7_toSix_78 : decode cX7_toSix 78 = .ok (.iconst 4, 1) := by decide +kernel
theorem dX7_toSix_79 : decode cX7_toSix 79 = .ok (.ireturn, 1) := by decide +kernel
theorem dX7_toSix_80 : decode cX7_toSix 80 = .ok (.aload_n 0, 1) := by decide +kernel
theorem dX7_toSix_81 : decode cX7_toSix 81 = .ok (.iload_n 2, 1) := by decide +kernel
theorem dX7_toSix_82 : decode cX7_toSix 82 = .ok (.aload_n 0, 1) := by decide +kernel
theorem dX7_toSix_83 : decode cX7_toSix 83 = .ok (.getfield 58, 3) := by decide +kernel
theorem dX7_toSix_86 : decode cX7_toSix 86 = .ok (.iconst 1, 1) := by decide +kernel
theorem dX7_toSix_87 : decode cX7_toSix 87 = .ok (.invokestatic 111, 3) := by decide +kernel
theorem dX7_toSix_90 : decode cX7_toSix 90 = .ok (.iload_n 1, 1) := by decide +kernel
theorem dX7_toSix_91 : decode cX7_toSix 91 = .ok (.invokevirtual 281, 3) := by decide +kernel
theorem dX7_toSix_94 : decode cX7_toSix 94 = .ok (.ifCond .ne 6, 3) := by decide +kernel
theorem dX7_toSix_97 : decode cX7_toSix 97 = .ok (.bipush 8, 2) := by decide +kernel
theorem dX7_toSix_99 : decode cX7_toSix 99 = .ok (.ireturn, 1) := by decide +kernel
theorem dX7_toSix_100 : decode cX7_toSix 100 = .ok (.aload_n 0, 1) := by decide +kernel
theorem dX7_toSix_101 : decode cX7_toSix 101 = .ok (.getfield 143, 3) := by decide +kernel
theorem dX7_toSix_104 : decode cX7_toSix 104 = .ok (.lstore_n 3, 1) := by decide +kernel
theorem dX7_toSix_105 : decode cX7_toSix 105 = .ok (.aload_n 0, 1) := by decide +kernel
theorem dX7_toSix_106 : decode cX7_toSix 106 = .ok (.getfield 146, 3) := by decide +kernel
theorem dX7_toSix_109 : decode cX7_toSix 109 = .ok (.lstore 5, 2) := by decide +kernel
theorem dX7_toSix_111 : decode cX7_toSix 111 = .ok (.aload_n 0, 1) := by decide +kernel
theorem dX7_toSix_112 : decode cX7_toSix 112 = .ok (.getfield 149, 3) := by decide +kernel
theorem dX7_toSix_115 : decode cX7_toSix 115 = .ok (.lstore 7, 2) := by decide +kernel
theorem dX7_toSix_117 : decode cX7_toSix 117 = .ok (.aload_n 0, 1) := by decide +kernel
theorem dX7_toSix_118 : decode cX7_toSix 118 = .ok (.getfield 152, 3) := by decide +kernel
theorem dX7_toSix_121 : decode cX7_toSix 121 = .ok (.lstore 9, 2) := by decide +kernel
