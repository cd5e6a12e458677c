theorem dX0_init_0 : decode cX0_init 0 = .ok (.aload_n 0, 1) := by decide +kernel
theorem dX0_init_1 : decode cX0_init 1 = .ok (.invokespecial 3, 3) := by decide +kernel
theorem dX0_init_4 : decode cX0_init 4 = .ok (.return_, 1) := by decide +kernel
theorem dX0_become_0 : decode cX0_become 0 = .ok (.aload_n 0, 1) := by decide +kernel
theorem dX0_become_1 : decode cX0_become 1 = .ok (.lload_n 1, 1) := by decide +kernel
theorem dX0_become_2 : decode cX0_become 2 = .ok (.putfield 9, 3) := by decide +kernel
theorem dX0_become_5 : decode cX0_become 5 = .ok (.aload_n 0, 1) := by decide +kernel
theorem dX0_become_6 : decode cX0_become 6 = .ok (.lload_n 3, 1) := by decide +kernel
theorem dX0_become_7 : decode cX0_become 7 = .ok (.putfield 15, 3) := by decide +kernel
theorem dX0_become_10 : decode cX0_become 10 = .ok (.aload_n 0, 1) := by decide +kernel
theorem dX0_become_11 : decode cX0_become 11 = .ok (.lload 5, 2) := by decide +kernel
theorem dX0_become_13 : decode cX0_become 13 = .ok (.putfield 18, 3) := by decide +kernel
theorem dX0_become_16 : decode cX0_become 16 = .ok (.aload_n 0, 1) := by decide +kernel
theorem dX0_become_17 : decode cX0_become 17 = .ok (.lload 7, 2) := by decide +kernel
theorem dX0_become_19 : decode cX0_become 19 = .ok (.putfield 21, 3) := by decide +kernel
theorem dX0_become_22 : decode cX0_become 22 = .ok (.return_, 1) := by decide +kernel
theorem dX0_readFirst_0 : decode cX0_readFirst 0 = .ok (.aload_n 0, 1) := by decide +kernel
theorem dX0_readFirst_1 : decode cX0_readFirst 1 = .ok (.aload_n 0, 1) := by decide +kernel
theorem dX0_readFirst_2 : decode cX0_readFirst 2 = .ok (.getfield 9, 3) := by decide +kernel
theorem dX0_readFirst_5 : decode cX0_readFirst 5 = .ok (.iload_n 1, 1) := by decide +kernel
theorem dX0_readFirst_6 : decode cX0_readFirst 6 = .ok (.i2l, 1) := by decide +kernel
theorem dX0_readFirst_7 : decode cX0_readFirst 7 = .ok (.aload_n 0, 1) := by decide +kernel
theorem dX0_readFirst_8 : decode cX0_readFirst 8 = .ok (.getfield 18, 3) := by decide +kernel
theorem dX0_readFirst_11 : decode cX0_readFirst 11 = .ok (.invokestatic 24, 3) := by decide +kernel
theorem dX0_readFirst_14 : decode cX0_readFirst 14 = .ok (.aload_n 0, 1) := by decide +kernel
theorem dX0_readFirst_15 : decode cX0_readFirst 15 = .ok (.getfield 15, 3) := by decide +kernel
theorem dX0_readFirst_18 : decode cX0_readFirst 18 = .ok (.iload_n 1, 1) := by decide +kernel
theorem dX0_readFirst_19 : decode cX0_readFirst 19 = .ok (.i2l, 1) := by decide +kernel
theorem dX0_readFirst_20 : decode cX0_readFirst 20 = .ok (.aload_n 0, 1) := by decide +kernel
theorem dX0_readFirst_21 : decode cX0_readFirst 21 = .ok (.getfield 21, 3) := by decide +kernel
theorem dX0_readFirst_24 : decode cX0_readFirst 24 = .ok (.invokestatic 24, 3) := by decide +kernel
theorem dX0_readFirst_27 : decode cX0_readFirst 27 = .ok (.aload_n 0, 1) := by decide +kernel
theorem dX0_readFirst_28 : decode cX0_readFirst 28 = .ok (.getfield 9, 3) := by decide +kernel
theorem dX0_readFirst_31 : decode cX0_readFirst 31 = .ok (.aload_n 0, 1) := by decide +kernel
theorem dX0_readFirst_32 : decode cX0_readFirst 32 = .ok (.getfield 15, 3) := by decide +kernel
theorem dX0_readFirst_35 : decode cX0_readFirst 35 = .ok (.invokevirtual 28, 3) := by decide +kernel
theorem dX0_readFirst_38 : decode cX0_readFirst 38 = .ok (.return_, 1) := by decide +kernel
theorem dX0_readSecond_0 : decode cX0_readSecond 0 = .ok (.aload_n 0, 1) := by decide +kernel
theorem dX0_readSecond_1 : decode cX0_readSecond 1 = .ok (.aload_n 0, 1) := by decide +kernel
theorem dX0_readSecond_2 : decode cX0_readSecond 2 = .ok (.getfield 9, 3) := by decide +kernel
theorem dX0_readSecond_5 : decode cX0_readSecond 5 = .ok (.iload_n 1, 1) := by decide +kernel
theorem dX0_readSecond_6 : decode cX0_readSecond 6 = .ok (.i2l, 1) := by decide +kernel
theorem dX0_readSecond_7 : decode cX0_readSecond 7 = .ok (.aload_n 0, 1) := by decide +kernel
theorem dX0_readSecond_8 : decode cX0_readSecond 8 = .ok (.getfield 15, 3) := by decide +kernel
theorem dX0_readSecond_11 : decode cX0_readSecond 11 = .ok (.invokestatic 24, 3) := by decide +kernel
theorem dX0_readSecond_14 : decode cX0_readSecond 14 = .ok (.aload_n 0, 1) := by decide +kernel
theorem dX0_readSecond_15 : decode cX0_readSecond 15 = .ok (.getfield 9, 3) := by decide +kernel
theorem dX0_readSecond_18 : decode cX0_readSecond 18 = .ok (.aload_n 0, 1) := by decide +kernel
theorem dX0_readSecond_19 : decode cX0_readSecond 19 = .ok (.getfield 18, 3) := by decide +kernel
theorem dX0_readSecond_22 : decode cX0_readSecond 22 = .ok (.iload_n 1, 1) := by decide +kernel
theorem dX0_readSecond_23 : decode cX0_readSecond 23 = .ok (.i2l, 1) := by decide +kernel
theorem dX0_readSecond_24 : decode cX0_readSecond 24 = .ok (.aload_n 0, 1) := by decide +kernel
theorem dX0_readSecond_25 : decode cX0_readSecond 25 = .ok (.getfield 21, 3) := by decide +kernel
theorem dX0_readSecond_28 : decode cX0_readSecond 28 = .ok (.invokestatic 24, 3) := by decide +kernel
theorem dX0_readSecond_31 : decode cX0_readSecond 31 = .ok (.aload_n 0, 1) := by decide +kernel
theorem dX0_readSecond_32 : decode cX0_readSecond 32 = .ok (.getfield 18, 3) := by decide +kernel
theorem dX0_readSecond_35 : decode cX0_readSecond 35 = .ok (.invokevirtual 28, 3) := by decide +kernel
theorem dX0_readSecond_38 : decode cX0_readSecond 38 = .ok (.return_, 1) := by decide +kernel
theorem dX0_endFirst_0 : decode cX0_endFirst 0 = .ok (.aload_n 0, 1) := by decide +kernel
theorem dX0_endFirst_1 : decode cX0_endFirst 1 = .ok (.aload_n 0, 1) := by decide +kernel
theorem dX0_endFirst_2 : decode cX0_endFirst 2 = .ok (.getfield 9, 3) := by decide +kernel
theorem dX0_endFirst_5 : decode cX0_endFirst 5 = .ok (.aload_n 0, 1) := by decide +kernel
theorem dX0_endFirst_6 : decode cX0_endFirst 6 = .ok (.getfield 15, 3) := by decide +kernel
theorem dX0_endFirst_9 : decode cX0_endFirst 9 = .ok (.aload_n 0, 1) := by decide +kernel
theorem dX0_endFirst_10 : decode cX0_endFirst 10 = .ok (.getfield 9, 3) := by decide +kernel
theorem dX0_endFirst_13 : decode cX0_endFirst 13 = .ok (.aload_n 0, 1) := by decide +kernel
theorem dX0_endFirst_14 : decode cX0_endFirst 14 = .ok (.getfield 15, 3) := by decide +kernel
theorem dX0_endFirst_17 : decode cX0_endFirst 17 = .ok (.invokevirtual 28, 3) := by decide +kernel
theorem dX0_endFirst_20 : decode cX0_endFirst 20 = .ok (.return_, 1) := by decide +kernel
theorem dX0_endSecond_0 : decode cX0_endSecond 0 = .ok (.aload_n 0, 1) := by decide +kernel
theorem dX0_endSecond_1 : decode cX0_endSecond 1 = .ok (.aload_n 0, 1) := by decide +kernel
theorem dX0_endSecond_2 : decode cX0_endSecond 2 = .ok (.getfield 9, 3) := by decide +kernel
theorem dX0_endSecond_5 : decode cX0_endSecond 5 = .ok (.aload_n 0, 1) := by decide +kernel
theorem dX0_endSecond_6 : decode cX0_endSecond 6 = .ok (.getfield 9, 3) := by decide +kernel
theorem dX0_endSecond_9 : decode cX0_endSecond 9 = .ok (.aload_n 0, 1) := by decide +kernel
theorem dX0_endSecond_10 : decode cX0_endSecond 10 = .ok (.getfield 18, 3) := by decide +kernel
theorem dX0_endSecond_13 : decode cX0_endSecond 13 = .ok (.aload_n 0, 1) := by decide +kernel
theorem dX0_endSecond_14 : decode cX0_endSecond 14 = .ok (.getfield 18, 3) := by decide +kernel
theorem dX0_endSecond_17 : decode cX0_endSecond 17 = .ok (.invokevirtual 28, 3) := by decide +kernel
theorem dX0_endSecond_20 : decode cX0_endSecond 20 = .ok (.return_, 1) := by decide +kernel
theorem dX0_subtract_0 : decode cX0_subtract 0 = .ok (.aload_n 0, 1) := by decide +kernel
theorem dX0_subtract_1 : decode cX0_subtract 1 = .ok (.aload_n 3, 1) := by decide +kernel
theorem dX0_subtract_2 : decode cX0_subtract 2 = .ok (.getfield 9, 3) := by decide +kernel
theorem dX0_subtract_5 : decode cX0_subtract 5 = .ok (.lload_n 1, 1) := by decide +kernel
theorem dX0_subtract_6 : decode cX0_subtract 6 = .ok (.lneg, 1) := by decide +kernel
theorem dX0_subtract_7 : decode cX0_subtract 7 = .ok (.aload_n 0, 1) := by decide +kernel
theorem dX0_subtract_8 : decode cX0_subtract 8 = .ok (.getfield 9, 3) := by decide +kernel
theorem dX0_subtract_11 : decode cX0_subtract 11 = .ok (.invokestatic 24, 3) := by decide +kernel
theorem dX0_subtract_14 : decode cX0_subtract 14 = .ok (.aload_n 3, 1) := by decide +kernel
theorem dX0_subtract_15 : decode cX0_subtract 15 = .ok (.getfield 15, 3) := by decide +kernel
theorem dX0_subtract_18 : decode cX0_subtract 18 = .ok (.lload_n 1, 1) := by decide +kernel
theorem dX0_subtract_19 : decode cX0_subtract 19 = .ok (.lneg, 1) := by decide +kernel
theorem dX0_subtract_20 : decode cX0_subtract 20 = .ok (.aload_n 0, 1) := by decide +kernel
theorem dX0_subtract_21 : decode cX0_subtract 21 = .ok (.getfield 15, 3) := by decide +kernel
theorem dX0_subtract_24 : decode cX0_subtract 24 = .ok (.invokestatic 24, 3) := by decide +kernel
theorem dX0_subtract_27 : decode cX0_subtract 27 = .ok (.aload_n 3, 1) := by decide +kernel
theorem dX0_subtract_28 : decode cX0_subtract 28 = .ok (.getfield 18, 3) := by decide +kernel
theorem dX0_subtract_31 : decode cX0_subtract 31 = .ok (.lload_n 1, 1) := by decide +kernel
theorem dX0_subtract_32 : decode cX0_subtract 32 = .ok (.lneg, 1) := by decide +kernel
theorem dX0_subtract_33 : decode cX0_subtract 33 = .ok (.aload_n 0, 1) := by decide +kernel
theorem dX0_subtract_34 : decode cX0_subtract 34 = .ok (.getfield 18, 3) := by decide +kernel
theorem dX0_subtract_37 : decode cX0_subtract 37 = .ok (.invokestatic 24, 3) := by decide +kernel
theorem dX0_subtract_40 : decode cX0_subtract 40 = .ok (.aload_n 3, 1) := by decide +kernel
theorem dX0_subtract_41 : decode cX0_subtract 41 = .ok (.getfield 21, 3) := by decide +kernel
theorem dX0_subtract_44 : decode cX0_subtract 44 = .ok (.lload_n 1, 1) := by decide +kernel
theorem dX0_subtract_45 : decode cX0_subtract 45 = .ok (.lneg, 1) := by decide +kernel
theorem dX0_subtract_46 : decode cX0_subtract 46 = .ok (.aload_n 0, 1) := by decide +kernel
theorem dX0_subtract_47 : decode cX0_subtract 47 = .ok (.getfield 21, 3) := by decide +kernel
theorem dX0_subtract_50 : decode cX0_subtract 50 = .ok (.invokestatic 24, 3) := by decide +kernel
theorem dX0_subtract_53 : decode cX0_subtract 53 = .ok (.invokevirtual 28, 3) := by decide +kernel
theorem dX0_subtract_56 : decode cX0_subtract 56 = .ok (.return_, 1) := by decide +kernel
theorem dX0_isBeyond_0 : decode cX0_isBeyond 0 = .ok (.aload_n 0, 1) := by decide +kernel
theorem dX0_isBeyond_1 : decode cX0_isBeyond 1 = .ok (.getfield 9, 3) := by decide +kernel
theorem dX0_isBeyond_4 : decode cX0_isBeyond 4 = .ok (.ldc2_w 32, 3) := by decide +kernel
theorem dX0_isBeyond_7 : decode cX0_isBeyond 7 = .ok (.lcmp, 1) := by decide +kernel
theorem dX0_isBeyond_8 : decode cX0_isBeyond 8 = .ok (.ifCond .eq 36, 3) := by decide +kernel
theorem dX0_isBeyond_11 : decode cX0_isBeyond 11 = .ok (.aload_n 0, 1) := by decide +kernel
theorem dX0_isBeyond_12 : decode cX0_isBeyond 12 = .ok (.getfield 15, 3) := by decide +kernel
theorem dX0_isBeyond_15 : decode cX0_isBeyond 15 = .ok (.ldc2_w 32, 3) := by decide +kernel
theorem dX0_isBeyond_18 : decode cX0_isBeyond 18 = .ok (.lcmp, 1) := by decide +kernel
theorem dX0_isBeyond_19 : decode cX0_isBeyond 19 = .ok (.ifCond .eq 25, 3) := by decide +kernel
theorem dX0_isBeyond_22 : decode cX0_isBeyond 22 = .ok (.aload_n 0, 1) := by decide +kernel
theorem dX0_isBeyond_23 : decode cX0_isBeyond 23 = .ok (.getfield 18, 3) := by decide +kernel
theorem dX0_isBeyond_26 : decode cX0_isBeyond 26 = .ok (.ldc2_w 32, 3) := by decide +kernel
theorem dX0_isBeyond_29 : decode cX0_isBeyond 29 = .ok (.lcmp, 1) := by decide +kernel
theorem dX0_isBeyond_30 : decode cX0_isBeyond 30 = .ok (.ifCond .eq 14, 3) := by decide +kernel
theorem dX0_isBeyond_33 : decode cX0_isBeyond 33 = .ok (.aload_n 0, 1) := by decide +kernel
theorem dX0_isBeyond_34 : decode cX0_isBeyond 34 = .ok (.getfield 21, 3) := by decide +kernel
theorem dX0_isBeyond_37 : decode cX0_isBeyond 37 = .ok (.ldc2_w 32, 3) := by decide +kernel
theorem dX0_isBeyond_40 : decode cX0_isBeyond 40 = .ok (.lcmp, 1) := by decide +kernel
theorem dX0_isBeyond_41 : decode cX0_isBeyond 41 = .ok (.ifCond .ne 7, 3) := by decide +kernel
theorem dX0_isBeyond_44 : decode cX0_isBeyond 44 = .ok (.iconst 1, 1) := by decide +kernel
theorem dX0_isBeyond_45 : decode cX0_isBeyond 45 = .ok (.goto 4, 3) := by decide +kernel
theorem dX0_isBeyond_48 : decode cX0_isBeyond 48 = .ok (.iconst 0, 1) := by decide +kernel
theorem dX0_isBeyond_49 : decode cX0_isBeyond 49 = .ok (.ireturn, 1) := by decide +kernel
theorem dX1_init_0 : decode cX1_init 0 = .ok (.aload_n 0, 1) := by decide +kernel
theorem dX1_init_1 : decode cX1_init 1 = .ok (.invokespecial 3, 3) := by decide +kernel
theorem dX1_init_4 : decode cX1_init 4 = .ok (.aload_n 0, 1) := by decide +kernel
theorem dX1_init_5 : decode cX1_init 5 = .ok (.bipush 16, 2) := by decide +kernel
theorem dX1_init_7 : decode cX1_init 7 = .ok (.anewarray 9, 3) := by decide +kernel
theorem dX1_init_10 : decode cX1_init 10 = .ok (.putfield 11, 3) := by decide +kernel
theorem dX1_init_13 : decode cX1_init 13 = .ok (.aload_n 0, 1) := by decide +kernel
theorem dX1_init_14 : decode cX1_init 14 = .ok (.bipush 16, 2) := by decide +kernel
theorem dX1_init_16 : decode cX1_init 16 = .ok (.anewarray 17, 3) := by decide +kernel
theorem dX1_init_19 : decode cX1_init 19 = .ok (.putfield 19, 3) := by decide +kernel
theorem dX1_init_22 : decode cX1_init 22 = .ok (.iconst 0, 1) := by decide +kernel
theorem dX1_init_23 : decode cX1_init 23 = .ok (.istore_n 1, 1) := by decide +kernel
theorem dX1_init_24 : decode cX1_init 24 = .ok (.iload_n 1, 1) := by decide +kernel
theorem dX1_init_25 : decode cX1_init 25 = .ok (.bipush 16, 2) := by decide +kernel
theorem dX1_init_27 : decode cX1_init 27 = .ok (.if_icmp .ge 31, 3) := by decide +kernel
theorem dX1_init_30 : decode cX1_init 30 = .ok (.iload_n 1, 1) := by decide +kernel
theorem dX1_init_31 : decode cX1_init 31 = .ok (.aload_n 0, 1) := by decide +kernel
theorem dX1_init_32 : decode cX1_init 32 = .ok (.getfield 19, 3) := by decide +kernel
theorem dX1_init_35 : decode cX1_init 35 = .ok (.arraylength, 1) := by decide +kernel
theorem dX1_init_36 : decode cX1_init 36 = .ok (.if_icmp .ge 22, 3) := by decide +kernel
theorem dX1_init_39 : decode cX1_init 39 = .ok (.aload_n 0, 1) := by decide +kernel
theorem dX1_init_40 : decode cX1_init 40 = .ok (.getfield 19, 3) := by decide +kernel
theorem dX1_init_43 : decode cX1_init 43 = .ok (.iload_n 1, 1) := by decide +kernel
theorem dX1_init_44 : decode cX1_init 44 = .ok (.new 17, 3) := by decide +kernel
theorem dX1_init_47 : decode cX1_init 47 = .ok (.dup, 1) := by decide +kernel
theorem dX1_init_48 : decode cX1_init 48 = .ok (.invokespecial 23, 3) := by decide +kernel
theorem dX1_init_51 : decode cX1_init 51 = .ok (.aastore, 1) := by decide +kernel
theorem dX1_init_52 : decode cX1_init 52 = .ok (.iinc 1 1, 3) := by decide +kernel
theorem dX1_init_55 : decode cX1_init 55 = .ok (.goto (-31), 3) := by decide +kernel
theorem dX1_init_58 : decode cX1_init 58 = .ok (.return_, 1) := by decide +kernel
theorem dX1_keep_0 : decode cX1_keep 0 = .ok (.aload_n 0, 1) := by decide +kernel
theorem dX1_keep_1 : decode cX1_keep 1 = .ok (.getfield 24, 3) := by decide +kernel
theorem dX1_keep_4 : decode cX1_keep 4 = .ok (.aload_n 0, 1) := by decide +kernel
theorem dX1_keep_5 : decode cX1_keep 5 = .ok (.getfield 28, 3) := by decide +kernel
theorem dX1_keep_8 : decode cX1_keep 8 = .ok (.iadd, 1) := by decide +kernel
theorem dX1_keep_9 : decode cX1_keep 9 = .ok (.bipush 15, 2) := by decide +kernel
theorem dX1_keep_11 : decode cX1_keep 11 = .ok (.iand, 1) := by decide +kernel
theorem dX1_keep_12 : decode cX1_keep 12 = .ok (.istore_n 2, 1) := by decide +kernel
theorem dX1_keep_13 : decode cX1_keep 13 = .ok (.iload_n 2, 1) := by decide +kernel
theorem dX1_keep_14 : decode cX1_keep 14 = .ok (.aload_n 0, 1) := by decide +kernel
theorem dX1_keep_15 : decode cX1_keep 15 = .ok (.getfield 11, 3) := by decide +kernel
theorem dX1_keep_18 : decode cX1_keep 18 = .ok (.arraylength, 1) := by decide +kernel
theorem dX1_keep_19 : decode cX1_keep 19 = .ok (.if_icmp .lt 4, 3) := by decide +kernel
theorem dX1_keep_22 : decode cX1_keep 22 = .ok (.return_, 1) := by decide +kernel
theorem dX1_keep_23 : decode cX1_keep 23 = .ok (.aload_n 0, 1) := by decide +kernel
theorem dX1_keep_24 : decode cX1_keep 24 = .ok (.getfield 28, 3) := by decide +kernel
theorem dX1_keep_27 : decode cX1_keep 27 = .ok (.bipush 16, 2) := by decide +kernel
theorem dX1_keep_29 : decode cX1_keep 29 = .ok (.if_icmp .ne 19, 3) := by decide +kernel
theorem dX1_keep_32 : decode cX1_keep 32 = .ok (.aload_n 0, 1) := by decide +kernel
theorem dX1_keep_33 : decode cX1_keep 33 = .ok (.aload_n 0, 1) := by decide +kernel
theorem dX1_keep_34 : decode cX1_keep 34 = .ok (.getfield 24, 3) := by decide +kernel
theorem dX1_keep_37 : decode cX1_keep 37 = .ok (.iconst 1, 1) := by decide +kernel
theorem dX1_keep_38 : decode cX1_keep 38 = .ok (.iadd, 1) := by decide +kernel
theorem dX1_keep_39 : decode cX1_keep 39 = .ok (.bipush 15, 2) := by decide +kernel
theorem dX1_keep_41 : decode cX1_keep 41 = .ok (.iand, 1) := by decide +kernel
theorem dX1_keep_42 : decode cX1_keep 42 = .ok (.putfield 24, 3) := by decide +kernel
theorem dX1_keep_45 : decode cX1_keep 45 = .ok (.goto 13, 3) := by decide +kernel
theorem dX1_keep_48 : decode cX1_keep 48 = .ok (.aload_n 0, 1) := by decide +kernel
theorem dX1_keep_49 : decode cX1_keep 49 = .ok (.dup, 1) := by decide +kernel
theorem dX1_keep_50 : decode cX1_keep 50 = .ok (.getfield 28, 3) := by decide +kernel
theorem dX1_keep_53 : decode cX1_keep 53 = .ok (.iconst 1, 1) := by decide +kernel
theorem dX1_keep_54 : decode cX1_keep 54 = .ok (.iadd, 1) := by decide +kernel
theorem dX1_keep_55 : decode cX1_keep 55 = .ok (.putfield 28, 3) := by decide +kernel
theorem dX1_keep_58 : decode cX1_keep 58 = .ok (.aload_n 0, 1) := by decide +kernel
theorem dX1_keep_59 : decode cX1_keep 59 = .ok (.getfield 11, 3) := by decide +kernel
theorem dX1_keep_62 : decode cX1_keep 62 = .ok (.iload_n 2, 1) := by decide +kernel
theorem dX1_keep_63 : decode cX1_keep 63 = .ok (.aload_n 1, 1) := by decide +kernel
theorem dX1_keep_64 : decode cX1_keep 64 = .ok (.aastore, 1) := by decide +kernel
theorem dX1_keep_65 : decode cX1_keep 65 = .ok (.aload_n 0, 1) := by decide +kernel
theorem dX1_keep_66 : decode cX1_keep 66 = .ok (.aload_n 1, 1) := by decide +kernel
theorem dX1_keep_67 : decode cX1_keep 67 = .ok (.iload_n 2, 1) := by decide +kernel
theorem dX1_keep_68 : decode cX1_keep 68 = .ok (.invokevirtual 31, 3) := by decide +kernel
theorem dX1_keep_71 : decode cX1_keep 71 = .ok (.return_, 1) := by decide +kernel
theorem dX1_takeBack_0 : decode cX1_takeBack 0 = .ok (.aload_n 0, 1) := by decide +kernel
theorem dX1_takeBack_1 : decode cX1_takeBack 1 = .ok (.getfield 28, 3) := by decide +kernel
theorem dX1_takeBack_4 : decode cX1_takeBack 4 = .ok (.ifCond .gt 5, 3) := by decide +kernel
theorem dX1_takeBack_7 : decode cX1_takeBack 7 = .ok (.aconst_null, 1) := by decide +kernel
theorem dX1_takeBack_8 : decode cX1_takeBack 8 = .ok (.areturn, 1) := by decide +kernel
theorem dX1_takeBack_9 : decode cX1_takeBack 9 = .ok (.aload_n 0, 1) := by decide +kernel
theorem dX1_takeBack_10 : decode cX1_takeBack 10 = .ok (.dup, 1) := by decide +kernel
theorem dX1_takeBack_11 : decode cX1_takeBack 11 = .ok (.getfield 28, 3) := by decide +kernel
theorem dX1_takeBack_14 : decode cX1_takeBack 14 = .ok (.iconst 1, 1) := by decide +kernel
theorem dX1_takeBack_15 : decode cX1_takeBack 15 = .ok (.isub, 1) := by decide +kernel
theorem dX1_takeBack_16 : decode cX1_takeBack 16 = .ok (.putfield 28, 3) := by decide +kernel
theorem dX1_takeBack_19 : decode cX1_takeBack 19 = .ok (.aload_n 0, 1) := by decide +kernel
theorem dX1_takeBack_20 : decode cX1_takeBack 20 = .ok (.getfield 24, 3) := by decide +kernel
theorem dX1_takeBack_23 : decode cX1_takeBack 23 = .ok (.aload_n 0, 1) := by decide +kernel
theorem dX1_takeBack_24 : decode cX1_takeBack 24 = .ok (.getfield 28, 3) := by decide +kernel
theorem dX1_takeBack_27 : decode cX1_takeBack 27 = .ok (.iadd, 1) := by decide +kernel
theorem dX1_takeBack_28 : decode cX1_takeBack 28 = .ok (.bipush 15, 2) := by decide +kernel
theorem dX1_takeBack_30 : decode cX1_takeBack 30 = .ok (.iand, 1) := by decide +kernel
theorem dX1_takeBack_31 : decode cX1_takeBack 31 = .ok (.istore_n 1, 1) := by decide +kernel
theorem dX1_takeBack_32 : decode cX1_takeBack 32 = .ok (.iload_n 1, 1) := by decide +kernel
theorem dX1_takeBack_33 : decode cX1_takeBack 33 = .ok (.aload_n 0, 1) := by decide +kernel
theorem dX1_takeBack_34 : decode cX1_takeBack 34 = .ok (.getfield 11, 3) := by decide +kernel
theorem dX1_takeBack_37 : decode cX1_takeBack 37 = .ok (.arraylength, 1) := by decide +kernel
theorem dX1_takeBack_38 : decode cX1_takeBack 38 = .ok (.if_icmp .ge 12, 3) := by decide +kernel
theorem dX1_takeBack_41 : decode cX1_takeBack 41 = .ok (.aload_n 0, 1) := by decide +kernel
theorem dX1_takeBack_42 : decode cX1_takeBack 42 = .ok (.getfield 11, 3) := by decide +kernel
theorem dX1_takeBack_45 : decode cX1_takeBack 45 = .ok (.iload_n 1, 1) := by decide +kernel
theorem dX1_takeBack_46 : decode cX1_takeBack 46 = .ok (.aaload, 1) := by decide +kernel
theorem dX1_takeBack_47 : decode cX1_takeBack 47 = .ok (.goto 4, 3) := by decide +kernel
theorem dX1_takeBack_50 : decode cX1_takeBack 50 = .ok (.aconst_null, 1) := by decide +kernel
theorem dX1_takeBack_51 : decode cX1_takeBack 51 = .ok (.astore_n 2, 1) := by decide +kernel
theorem dX1_takeBack_52 : decode cX1_takeBack 52 = .ok (.aload_n 2, 1) := by decide +kernel
theorem dX1_takeBack_53 : decode cX1_takeBack 53 = .ok (.ifnull 9, 3) := by decide +kernel
theorem dX1_takeBack_56 : decode cX1_takeBack 56 = .ok (.aload_n 0, 1) := by decide +kernel
theorem dX1_takeBack_57 : decode cX1_takeBack 57 = .ok (.aload_n 2, 1) := by decide +kernel
theorem dX1_takeBack_58 : decode cX1_takeBack 58 = .ok (.iload_n 1, 1) := by decide +kernel
theorem dX1_takeBack_59 : decode cX1_takeBack 59 = .ok (.invokevirtual 31, 3) := by decide +kernel
theorem dX1_takeBack_62 : decode cX1_takeBack 62 = .ok (.aload_n 2, 1) := by decide +kernel
theorem dX1_takeBack_63 : decode cX1_takeBack 63 = .ok (.areturn, 1) := by decide +kernel
theorem dX1_swap_0 : decode cX1_swap 0 = .ok (.iload_n 2, 1) := by decide +kernel
theorem dX1_swap_1 : decode cX1_swap 1 = .ok (.ifCond .lt 12, 3) := by decide +kernel
theorem dX1_swap_4 : decode cX1_swap 4 = .ok (.iload_n 2, 1) := by decide +kernel
theorem dX1_swap_5 : decode cX1_swap 5 = .ok (.aload_n 0, 1) := by decide +kernel
theorem dX1_swap_6 : decode cX1_swap 6 = .ok (.getfield 19, 3) := by decide +kernel
theorem dX1_swap_9 : decode cX1_swap 9 = .ok (.arraylength, 1) := by decide +kernel
theorem dX1_swap_10 : decode cX1_swap 10 = .ok (.if_icmp .lt 4, 3) := by decide +kernel
theorem dX1_swap_13 : decode cX1_swap 13 = .ok (.return_, 1) := by decide +kernel
theorem dX1_swap_14 : decode cX1_swap 14 = .ok (.aload_n 0, 1) := by decide +kernel
theorem dX1_swap_15 : decode cX1_swap 15 = .ok (.getfield 19, 3) := by decide +kernel
theorem dX1_swap_18 : decode cX1_swap 18 = .ok (.iload_n 2, 1) := by decide +kernel
theorem dX1_swap_19 : decode cX1_swap 19 = .ok (.aaload, 1) := by decide +kernel
theorem dX1_swap_20 : decode cX1_swap 20 = .ok (.astore_n 3, 1) := by decide +kernel
theorem dX1_swap_21 : decode cX1_swap 21 = .ok (.aload_n 3, 1) := by decide +kernel
theorem dX1_swap_22 : decode cX1_swap 22 = .ok (.ifnull 18, 3) := by decide +kernel
theorem dX1_swap_25 : decode cX1_swap 25 = .ok (.aload_n 0, 1) := by decide +kernel
theorem dX1_swap_26 : decode cX1_swap 26 = .ok (.getfield 19, 3) := by decide +kernel
theorem dX1_swap_29 : decode cX1_swap 29 = .ok (.iload_n 2, 1) := by decide +kernel
theorem dX1_swap_30 : decode cX1_swap 30 = .ok (.aload_n 1, 1) := by decide +kernel
theorem dX1_swap_31 : decode cX1_swap 31 = .ok (.getfield 35, 3) := by decide +kernel
theorem dX1_swap_34 : decode cX1_swap 34 = .ok (.aastore, 1) := by decide +kernel
theorem dX1_swap_35 : decode cX1_swap 35 = .ok (.aload_n 1, 1) := by decide +kernel
theorem dX1_swap_36 : decode cX1_swap 36 = .ok (.aload_n 3, 1) := by decide +kernel
theorem dX1_swap_37 : decode cX1_swap 37 = .ok (.putfield 35, 3) := by decide +kernel
theorem dX1_swap_40 : decode cX1_swap 40 = .ok (.return_, 1) := by decide +kernel
theorem dX2_init_0 : decode cX2_init 0 = .ok (.aload_n 0, 1) := by decide +kernel
theorem dX2_init_1 : decode cX2_init 1 = .ok (.invokespecial 3, 3) := by decide +kernel
theorem dX2_init_4 : decode cX2_init 4 = .ok (.return_, 1) := by decide +kernel
theorem dX2_start_0 : decode cX2_start 0 = .ok (.aload_n 0, 1) := by decide +kernel
theorem dX2_start_1 : decode cX2_start 1 = .ok (.lconst 1, 1) := by decide +kernel
theorem dX2_start_2 : decode cX2_start 2 = .ok (.putfield 9, 3) := by decide +kernel
theorem dX2_start_5 : decode cX2_start 5 = .ok (.aload_n 0, 1) := by decide +kernel
theorem dX2_start_6 : decode cX2_start 6 = .ok (.lconst 0, 1) := by decide +kernel
theorem dX2_start_7 : decode cX2_start 7 = .ok (.putfield 15, 3) := by decide +kernel
theorem dX2_start_10 : decode cX2_start 10 = .ok (.aload_n 0, 1) := by decide +kernel
theorem dX2_start_11 : decode cX2_start 11 = .ok (.lconst 0, 1) := by decide +kernel
theorem dX2_start_12 : decode cX2_start 12 = .ok (.putfield 18, 3) := by decide +kernel
theorem dX2_start_15 : decode cX2_start 15 = .ok (.aload_n 0, 1) := by decide +kernel
theorem dX2_start_16 : decode cX2_start 16 = .ok (.lconst 1, 1) := by decide +kernel
theorem dX2_start_17 : decode cX2_start 17 = .ok (.putfield 21, 3) := by decide +kernel
theorem dX2_start_20 : decode cX2_start 20 = .ok (.aload_n 0, 1) := by decide +kernel
theorem dX2_start_21 : decode cX2_start 21 = .ok (.iconst 0, 1) := by decide +kernel
theorem dX2_start_22 : decode cX2_start 22 = .ok (.putfield 24, 3) := by decide +kernel
theorem dX2_start_25 : decode cX2_start 25 = .ok (.return_, 1) := by decide +kernel
theorem dX2_climb_0 : decode cX2_climb 0 = .ok (.aload_n 0, 1) := by decide +kernel
theorem dX2_climb_1 : decode cX2_climb 1 = .ok (.invokevirtual 28, 3) := by decide +kernel
theorem dX2_climb_4 : decode cX2_climb 4 = .ok (.iconst 0, 1) := by decide +kernel
theorem dX2_climb_5 : decode cX2_climb 5 = .ok (.istore_n 3, 1) := by decide +kernel
theorem dX2_climb_6 : decode cX2_climb 6 = .ok (.iload_n 3, 1) := by decide +kernel
theorem dX2_climb_7 : decode cX2_climb 7 = .ok (.iload_n 2, 1) := by decide +kernel
theorem dX2_climb_8 : decode cX2_climb 8 = .ok (.if_icmp .gt 24, 3) := by decide +kernel
theorem dX2_climb_11 : decode cX2_climb 11 = .ok (.iload_n 3, 1) := by decide +kernel
theorem dX2_climb_12 : decode cX2_climb 12 = .ok (.bipush 60, 2) := by decide +kernel
theorem dX2_climb_14 : decode cX2_climb 14 = .ok (.if_icmp .ge 18, 3) := by decide +kernel
theorem dX2_climb_17 : decode cX2_climb 17 = .ok (.aload_n 0, 1) := by decide +kernel
theorem dX2_climb_18 : decode cX2_climb 18 = .ok (.aload_n 1, 1) := by decide +kernel
theorem dX2_climb_19 : decode cX2_climb 19 = .ok (.iload_n 3, 1) := by decide +kernel
theorem dX2_climb_20 : decode cX2_climb 20 = .ok (.invokevirtual 31, 3) := by decide +kernel
theorem dX2_climb_23 : decode cX2_climb 23 = .ok (.invokevirtual 37, 3) := by decide +kernel
theorem dX2_climb_26 : decode cX2_climb 26 = .ok (.iinc 3 1, 3) := by decide +kernel
theorem dX2_climb_29 : decode cX2_climb 29 = .ok (.goto (-23), 3) := by decide +kernel
theorem dX2_climb_32 : decode cX2_climb 32 = .ok (.return_, 1) := by decide +kernel
theorem dX2_climbOne_0 : decode cX2_climbOne 0 = .ok (.aload_n 0, 1) := by decide +kernel
theorem dX2_climbOne_1 : decode cX2_climbOne 1 = .ok (.getfield 24, 3) := by decide +kernel
theorem dX2_climbOne_4 : decode cX2_climbOne 4 = .ok (.ifCond .eq 4, 3) := by decide +kernel
theorem dX2_climbOne_7 : decode cX2_climbOne 7 = .ok (.return_, 1) := by decide +kernel
theorem dX2_climbOne_8 : decode cX2_climbOne 8 = .ok (.aload_n 0, 1) := by decide +kernel
theorem dX2_climbOne_9 : decode cX2_climbOne 9 = .ok (.getfield 9, 3) := by decide +kernel
theorem dX2_climbOne_12 : decode cX2_climbOne 12 = .ok (.iload_n 1, 1) := by decide +kernel
theorem dX2_climbOne_13 : decode cX2_climbOne 13 = .ok (.i2l, 1) := by decide +kernel
theorem dX2_climbOne_14 : decode cX2_climbOne 14 = .ok (.aload_n 0, 1) := by decide +kernel
theorem dX2_climbOne_15 : decode cX2_climbOne 15 = .ok (.getfield 18, 3) := by decide +kernel
theorem dX2_climbOne_18 : decode cX2_climbOne 18 = .ok (.invokestatic 41, 3) := by decide +kernel
theorem dX2_climbOne_21 : decode cX2_climbOne 21 = .ok (.lstore_n 2, 1) := by decide +kernel
theorem dX2_climbOne_22 : decode cX2_climbOne 22 = .ok (.aload_n 0, 1) := by decide +kernel
theorem dX2_climbOne_23 : decode cX2_climbOne 23 = .ok (.getfield 15, 3) := by decide +kernel
theorem dX2_climbOne_26 : decode cX2_climbOne 26 = .ok (.iload_n 1, 1) := by decide +kernel
theorem dX2_climbOne_27 : decode cX2_climbOne 27 = .ok (.i2l, 1) := by decide +kernel
theorem dX2_climbOne_28 : decode cX2_climbOne 28 = .ok (.aload_n 0, 1) := by decide +kernel
theorem dX2_climbOne_29 : decode cX2_climbOne 29 = .ok (.getfield 21, 3) := by decide +kernel
theorem dX2_climbOne_32 : decode cX2_climbOne 32 = .ok (.invokestatic 41, 3) := by decide +kernel
theorem dX2_climbOne_35 : decode cX2_climbOne 35 = .ok (.lstore 4, 2) := by decide +kernel
theorem dX2_climbOne_37 : decode cX2_climbOne 37 = .ok (.aload_n 0, 1) := by decide +kernel
theorem dX2_climbOne_38 : decode cX2_climbOne 38 = .ok (.aload_n 0, 1) := by decide +kernel
theorem dX2_climbOne_39 : decode cX2_climbOne 39 = .ok (.getfield 9, 3) := by decide +kernel
theorem dX2_climbOne_42 : decode cX2_climbOne 42 = .ok (.putfield 18, 3) := by decide +kernel
theorem dX2_climbOne_45 : decode cX2_climbOne 45 = .ok (.aload_n 0, 1) := by decide +kernel
theorem dX2_climbOne_46 : decode cX2_climbOne 46 = .ok (.aload_n 0, 1) := by decide +kernel
theorem dX2_climbOne_47 : decode cX2_climbOne 47 = .ok (.getfield 15, 3) := by decide +kernel
theorem dX2_climbOne_50 : decode cX2_climbOne 50 = .ok (.putfield 21, 3) := by decide +kernel
theorem dX2_climbOne_53 : decode cX2_climbOne 53 = .ok (.aload_n 0, 1) := by decide +kernel
theorem dX2_climbOne_54 : decode cX2_climbOne 54 = .ok (.lload_n 2, 1) := by decide +kernel
theorem dX2_climbOne_55 : decode cX2_climbOne 55 = .ok (.putfield 9, 3) := by decide +kernel
theorem dX2_climbOne_58 : decode cX2_climbOne 58 = .ok (.aload_n 0, 1) := by decide +kernel
theorem dX2_climbOne_59 : decode cX2_climbOne 59 = .ok (.lload 4, 2) := by decide +kernel
theorem dX2_climbOne_61 : decode cX2_climbOne 61 = .ok (.putfield 15, 3) := by decide +kernel
theorem dX2_climbOne_64 : decode cX2_climbOne 64 = .ok (.aload_n 0, 1) := by decide +kernel
theorem dX2_climbOne_65 : decode cX2_climbOne 65 = .ok (.aload_n 0, 1) := by decide +kernel
theorem dX2_climbOne_66 : decode cX2_climbOne 66 = .ok (.getfield 9, 3) := by decide +kernel
theorem dX2_climbOne_69 : decode cX2_climbOne 69 = .ok (.ldc2_w 45, 3) := by decide +kernel
theorem dX2_climbOne_72 : decode cX2_climbOne 72 = .ok (.lcmp, 1) := by decide +kernel
theorem dX2_climbOne_73 : decode cX2_climbOne 73 = .ok (.ifCond .eq 14, 3) := by decide +kernel
theorem dX2_climbOne_76 : decode cX2_climbOne 76 = .ok (.aload_n 0, 1) := by decide +kernel
theorem dX2_climbOne_77 : decode cX2_climbOne 77 = .ok (.getfield 15, 3) := by decide +kernel
theorem dX2_climbOne_80 : decode cX2_climbOne 80 = .ok (.ldc2_w 45, 3) := by decide +kernel
theorem dX2_climbOne_83 : decode cX2_climbOne 83 = .ok (.lcmp, 1) := by decide +kernel
theorem dX2_climbOne_84 : decode cX2_climbOne 84 = .ok (.ifCond .ne 7, 3) := by decide +kernel
theorem dX2_climbOne_87 : decode cX2_climbOne 87 = .ok (.iconst 1, 1) := by decide +kernel
theorem dX2_climbOne_88 : decode cX2_climbOne 88 = .ok (.goto 4, 3) := by decide +kernel
theorem dX2_climbOne_91 : decode cX2_climbOne 91 = .ok (.iconst 0, 1) := by decide +kernel
theorem dX2_climbOne_92 : decode cX2_climbOne 92 = .ok (.putfield 24, 3) := by decide +kernel
theorem dX2_climbOne_95 : decode cX2_climbOne 95 = .ok (.return_, 1) := by decide +kernel
theorem dX3_init_0 : decode cX3_init 0 = .ok (.aload_n 0, 1) := by decide +kernel
theorem dX3_init_1 : decode cX3_init 1 = .ok (.invokespecial 3, 3) := by decide +kernel
theorem dX3_init_4 : decode cX3_init 4 = .ok (.aload_n 0, 1) := by decide +kernel
theorem dX3_init_5 : decode cX3_init 5 = .ok (.iconst 0, 1) := by decide +kernel
theorem dX3_init_6 : decode cX3_init 6 = .ok (.putfield 9, 3) := by decide +kernel
theorem dX3_init_9 : decode cX3_init 9 = .ok (.aload_n 0, 1) := by decide +kernel
theorem dX3_init_10 : decode cX3_init 10 = .ok (.iconst 1, 1) := by decide +kernel
theorem dX3_init_11 : decode cX3_init 11 = .ok (.putfield 15, 3) := by decide +kernel
theorem dX3_init_14 : decode cX3_init 14 = .ok (.aload_n 0, 1) := by decide +kernel
theorem dX3_init_15 : decode cX3_init 15 = .ok (.bipush 60, 2) := by decide +kernel
theorem dX3_init_17 : decode cX3_init 17 = .ok (.newarray .int, 2) := by decide +kernel
theorem dX3_init_19 : decode cX3_init 19 = .ok (.putfield 18, 3) := by decide +kernel
theorem dX3_init_22 : decode cX3_init 22 = .ok (.return_, 1) := by decide +kernel
theorem dX3_become_0 : decode cX3_become 0 = .ok (.aload_n 0, 1) := by decide +kernel
theorem dX3_become_1 : decode cX3_become 1 = .ok (.iload_n 1, 1) := by decide +kernel
theorem dX3_become_2 : decode cX3_become 2 = .ok (.putfield 9, 3) := by decide +kernel
theorem dX3_become_5 : decode cX3_become 5 = .ok (.aload_n 0, 1) := by decide +kernel
theorem dX3_become_6 : decode cX3_become 6 = .ok (.iload_n 2, 1) := by decide +kernel
theorem dX3_become_7 : decode cX3_become 7 = .ok (.putfield 22, 3) := by decide +kernel
theorem dX3_become_10 : decode cX3_become 10 = .ok (.aload_n 0, 1) := by decide +kernel
theorem dX3_become_11 : decode cX3_become 11 = .ok (.iload_n 3, 1) := by decide +kernel
theorem dX3_become_12 : decode cX3_become 12 = .ok (.putfield 25, 3) := by decide +kernel
theorem dX3_become_15 : decode cX3_become 15 = .ok (.aload_n 0, 1) := by decide +kernel
theorem dX3_become_16 : decode cX3_become 16 = .ok (.iload 4, 2) := by decide +kernel
theorem dX3_become_18 : decode cX3_become 18 = .ok (.putfield 28, 3) := by decide +kernel
theorem dX3_become_21 : decode cX3_become 21 = .ok (.aload_n 0, 1) := by decide +kernel
theorem dX3_become_22 : decode cX3_become 22 = .ok (.iload 5, 2) := by decide +kernel
theorem dX3_become_24 : decode cX3_become 24 = .ok (.putfield 15, 3) := by decide +kernel
theorem dX3_become_27 : decode cX3_become 27 = .ok (.aload_n 0, 1) := by decide +kernel
theorem dX3_become_28 : decode cX3_become 28 = .ok (.iload 6, 2) := by decide +kernel
theorem dX3_become_30 : decode cX3_become 30 = .ok (.putfield 31, 3) := by decide +kernel
theorem dX3_become_33 : decode cX3_become 33 = .ok (.aload_n 0, 1) := by decide +kernel
theorem dX3_become_34 : decode cX3_become 34 = .ok (.iload 7, 2) := by decide +kernel
theorem dX3_become_36 : decode cX3_become 36 = .ok (.putfield 34, 3) := by decide +kernel
theorem dX3_become_39 : decode cX3_become 39 = .ok (.return_, 1) := by decide +kernel
theorem dX4_init_0 : decode cX4_init 0 = .ok (.aload_n 0, 1) := by decide +kernel
theorem dX4_init_1 : decode cX4_init 1 = .ok (.invokespecial 3, 3) := by decide +kernel
theorem dX4_init_4 : decode cX4_init 4 = .ok (.aload_n 0, 1) := by decide +kernel
theorem dX4_init_5 : decode cX4_init 5 = .ok (.aload_n 1, 1) := by decide +kernel
theorem dX4_init_6 : decode cX4_init 6 = .ok (.putfield 9, 3) := by decide +kernel
theorem dX4_init_9 : decode cX4_init 9 = .ok (.return_, 1) := by decide +kernel
theorem dX4_answer_0 : decode cX4_answer 0 = .ok (.aload_n 0, 1) := by decide +kernel
theorem dX4_answer_1 : decode cX4_answer 1 = .ok (.aload_n 1, 1) := by decide +kernel
theorem dX4_answer_2 : decode cX4_answer 2 = .ok (.putfield 15, 3) := by decide +kernel
theorem dX4_answer_5 : decode cX4_answer 5 = .ok (.aload_n 0, 1) := by decide +kernel
theorem dX4_answer_6 : decode cX4_answer 6 = .ok (.lconst 1, 1) := by decide +kernel
theorem dX4_answer_7 : decode cX4_answer 7 = .ok (.aload_n 1, 1) := by decide +kernel
theorem dX4_answer_8 : decode cX4_answer 8 = .ok (.getfield 19, 3) := by decide +kernel
theorem dX4_answer_11 : decode cX4_answer 11 = .ok (.bipush 60, 2) := by decide +kernel
theorem dX4_answer_13 : decode cX4_answer 13 = .ok (.invokestatic 25, 3) := by decide +kernel
theorem dX4_answer_16 : decode cX4_answer 16 = .ok (.lshl, 1) := by decide +kernel
theorem dX4_answer_17 : decode cX4_answer 17 = .ok (.lconst 1, 1) := by decide +kernel
theorem dX4_answer_18 : decode cX4_answer 18 = .ok (.lsub, 1) := by decide +kernel
theorem dX4_answer_19 : decode cX4_answer 19 = .ok (.putfield 31, 3) := by decide +kernel
theorem dX4_answer_22 : decode cX4_answer 22 = .ok (.aload_n 0, 1) := by decide +kernel
theorem dX4_answer_23 : decode cX4_answer 23 = .ok (.getfield 9, 3) := by decide +kernel
theorem dX4_answer_26 : decode cX4_answer 26 = .ok (.sipush 258, 3) := by decide +kernel
theorem dX4_answer_29 : decode cX4_answer 29 = .ok (.invokevirtual 37, 3) := by decide +kernel
theorem dX4_answer_32 : decode cX4_answer 32 = .ok (.istore_n 2, 1) := by decide +kernel
theorem dX4_answer_33 : decode cX4_answer 33 = .ok (.iload_n 2, 1) := by decide +kernel
theorem dX4_answer_34 : decode cX4_answer 34 = .ok (.ifCond .ne 13, 3) := by decide +kernel
theorem dX4_answer_37 : decode cX4_answer 37 = .ok (.aload_n 0, 1) := by decide +kernel
theorem dX4_answer_38 : decode cX4_answer 38 = .ok (.getfield 9, 3) := by decide +kernel
theorem dX4_answer_41 : decode cX4_answer 41 = .ok (.sipush 259, 3) := by decide +kernel
theorem dX4_answer_44 : decode cX4_answer 44 = .ok (.invokevirtual 41, 3) := by decide +kernel
theorem dX4_answer_47 : decode cX4_answer 47 = .ok (.aload_n 0, 1) := by decide +kernel
theorem dX4_answer_48 : decode cX4_answer 48 = .ok (.iconst 0, 1) := by decide +kernel
theorem dX4_answer_49 : decode cX4_answer 49 = .ok (.invokevirtual 45, 3) := by decide +kernel
theorem dX4_answer_52 : decode cX4_answer 52 = .ok (.lstore_n 3, 1) := by decide +kernel
theorem dX4_answer_53 : decode cX4_answer 53 = .ok (.aload_n 0, 1) := by decide +kernel
theorem dX4_answer_54 : decode cX4_answer 54 = .ok (.getfield 9, 3) := by decide +kernel
theorem dX4_answer_57 : decode cX4_answer 57 = .ok (.sipush 257, 3) := by decide +kernel
theorem dX4_answer_60 : decode cX4_answer 60 = .ok (.invokevirtual 41, 3) := by decide +kernel
theorem dX4_answer_63 : decode cX4_answer 63 = .ok (.aload_n 0, 1) := by decide +kernel
theorem dX4_answer_64 : decode cX4_answer 64 = .ok (.getfield 9, 3) := by decide +kernel
theorem dX4_answer_67 : decode cX4_answer 67 = .ok (.getfield 49, 3) := by decide +kernel
theorem dX4_answer_70 : decode cX4_answer 70 = .ok (.ifCond .eq 14, 3) := by decide +kernel
theorem dX4_answer_73 : decode cX4_answer 73 = .ok (.ldc 52, 2) := by decide +kernel
theorem dX4_answer_75 : decode cX4_answer 75 = .ok (.aload_n 0, 1) := by decide +kernel
theorem dX4_answer_76 : decode cX4_answer 76 = .ok (.getfield 9, 3) := by decide +kernel
theorem dX4_answer_79 : decode cX4_answer 79 = .ok (.getfield 49, 3) := by decide +kernel
theorem dX4_answer_82 : decode cX4_answer 82 = .ok (.isub, 1) := by decide +kernel
theorem dX4_answer_83 : decode cX4_answer 83 = .ok (.ireturn, 1) := by decide +kernel
theorem dX4_answer_84 : decode cX4_answer 84 = .ok (.iload_n 2, 1) := by decide +kernel
theorem dX4_answer_85 : decode cX4_answer 85 = .ok (.ifCond .eq 10, 3) := by decide +kernel
theorem dX4_answer_88 : decode cX4_answer 88 = .ok (.lload_n 3, 1) := by decide +kernel
theorem dX4_answer_89 : decode cX4_answer 89 = .ok (.invokestatic 53, 3) := by decide +kernel
theorem dX4_answer_92 : decode cX4_answer 92 = .ok (.goto 7, 3) := by decide +kernel
theorem dX4_answer_95 : decode cX4_answer 95 = .ok (.lload_n 3, 1) := by decide +kernel
theorem dX4_answer_96 : decode cX4_answer 96 = .ok (.invokestatic 59, 3) := by decide +kernel
theorem dX4_answer_99 : decode cX4_answer 99 = .ok (.ireturn, 1) := by decide +kernel
theorem dX4_firstPlace_0 : decode cX4_firstPlace 0 = .ok (.iconst 0, 1) := by decide +kernel
theorem dX4_firstPlace_1 : decode cX4_firstPlace 1 = .ok (.istore_n 2, 1) := by decide +kernel
theorem dX4_firstPlace_2 : decode cX4_firstPlace 2 = .ok (.iload_n 2, 1) := by decide +kernel
theorem dX4_firstPlace_3 : decode cX4_firstPlace 3 = .ok (.bipush 60, 2) := by decide +kernel
theorem dX4_firstPlace_5 : decode cX4_firstPlace 5 = .ok (.if_icmp .ge 21, 3) := by decide +kernel
theorem dX4_firstPlace_8 : decode cX4_firstPlace 8 = .ok (.lload_n 0, 1) := by decide +kernel
theorem dX4_firstPlace_9 : decode cX4_firstPlace 9 = .ok (.iload_n 2, 1) := by decide +kernel
theorem dX4_firstPlace_10 : decode cX4_firstPlace 10 = .ok (.lshr, 1) := by decide +kernel
theorem dX4_firstPlace_11 : decode cX4_firstPlace 11 = .ok (.lconst 1, 1) := by decide +kernel
theorem dX4_firstPlace_12 : decode cX4_firstPlace 12 = .ok (.land, 1) := by decide +kernel
theorem dX4_firstPlace_13 : decode cX4_firstPlace 13 = .ok (.lconst 1, 1) := by decide +kernel
theorem dX4_firstPlace_14 : decode cX4_firstPlace 14 = .ok (.lcmp, 1) := by decide +kernel
theorem dX4_firstPlace_15 : decode cX4_firstPlace 15 = .ok (.ifCond .ne 5, 3) := by decide +kernel
theorem dX4_firstPlace_18 : decode cX4_firstPlace 18 = .ok (.iload_n 2, 1) := by decide +kernel
theorem dX4_firstPlace_19 : decode cX4_firstPlace 19 = .ok (.ireturn, 1) := by decide +kernel
theorem dX4_firstPlace_20 : decode cX4_firstPlace 20 = .ok (.iinc 2 1, 3) := by decide +kernel
theorem dX4_firstPlace_23 : decode cX4_firstPlace 23 = .ok (.goto (-21), 3) := by decide +kernel
theorem dX4_firstPlace_26 : decode cX4_firstPlace 26 = .ok (.iconst (-1), 1) := by decide +kernel
theorem dX4_firstPlace_27 : decode cX4_firstPlace 27 = .ok (.ireturn, 1) := by decide +kernel
theorem dX4_parseTest_0 : decode cX4_parseTest 0 = .ok (.lconst 0, 1) := by decide +kernel
theorem dX4_parseTest_1 : decode cX4_parseTest 1 = .ok (.lstore_n 2, 1) := by decide +kernel
theorem dX4_parseTest_2 : decode cX4_parseTest 2 = .ok (.aload_n 0, 1) := by decide +kernel
theorem dX4_parseTest_3 : decode cX4_parseTest 3 = .ok (.getfield 31, 3) := by decide +kernel
theorem dX4_parseTest_6 : decode cX4_parseTest 6 = .ok (.lstore 4, 2) := by decide +kernel
theorem dX4_parseTest_8 : decode cX4_parseTest 8 = .ok (.iconst 0, 1) := by decide +kernel
theorem dX4_parseTest_9 : decode cX4_parseTest 9 = .ok (.istore 6, 2) := by decide +kernel
theorem dX4_parseTest_11 : decode cX4_parseTest 11 = .ok (.iload 6, 2) := by decide +kernel
theorem dX4_parseTest_13 : decode cX4_parseTest 13 = .ok (.sipush 200, 3) := by decide +kernel
theorem dX4_parseTest_16 : decode cX4_parseTest 16 = .ok (.if_icmp .ge 62, 3) := by decide +kernel
theorem dX4_parseTest_19 : decode cX4_parseTest 19 = .ok (.lload 4, 2) := by decide +kernel
theorem dX4_parseTest_21 : decode cX4_parseTest 21 = .ok (.aload_n 0, 1) := by decide +kernel
theorem dX4_parseTest_22 : decode cX4_parseTest 22 = .ok (.iload_n 1, 1) := by decide +kernel
theorem dX4_parseTest_23 : decode cX4_parseTest 23 = .ok (.invokevirtual 62, 3) := by decide +kernel
theorem dX4_parseTest_26 : decode cX4_parseTest 26 = .ok (.land, 1) := by decide +kernel
theorem dX4_parseTest_27 : decode cX4_parseTest 27 = .ok (.lstore 4, 2) := by decide +kernel
theorem dX4_parseTest_29 : decode cX4_parseTest 29 = .ok (.aload_n 0, 1) := by decide +kernel
theorem dX4_parseTest_30 : decode cX4_parseTest 30 = .ok (.getfield 9, 3) := by decide +kernel
theorem dX4_parseTest_33 : decode cX4_parseTest 33 = .ok (.sipush 261, 3) := by decide +kernel
theorem dX4_parseTest_36 : decode cX4_parseTest 36 = .ok (.invokevirtual 37, 3) := by decide +kernel
theorem dX4_parseTest_39 : decode cX4_parseTest 39 = .ok (.ifCond .eq 6, 3) := by decide +kernel
theorem dX4_parseTest_42 : decode cX4_parseTest 42 = .ok (.goto 30, 3) := by decide +kernel
theorem dX4_parseTest_45 : decode cX4_parseTest 45 = .ok (.lload_n 2, 1) := by decide +kernel
theorem dX4_parseTest_46 : decode cX4_parseTest 46 = .ok (.lload 4, 2) := by decide +kernel
theorem dX4_parseTest_48 : decode cX4_parseTest 48 = .ok (.lor, 1) := by decide +kernel
theorem dX4_parseTest_49 : decode cX4_parseTest 49 = .ok (.lstore_n 2, 1) := by decide +kernel
theorem dX4_parseTest_50 : decode cX4_parseTest 50 = .ok (.aload_n 0, 1) := by decide +kernel
theorem dX4_parseTest_51 : decode cX4_parseTest 51 = .ok (.getfield 31, 3) := by decide +kernel
theorem dX4_parseTest_54 : decode cX4_parseTest 54 = .ok (.lstore 4, 2) := by decide +kernel
theorem dX4_parseTest_56 : decode cX4_parseTest 56 = .ok (.aload_n 0, 1) := by decide +kernel
theorem dX4_parseTest_57 : decode cX4_parseTest 57 = .ok (.getfield 9, 3) := by decide +kernel
theorem dX4_parseTest_60 : decode cX4_parseTest 60 = .ok (.sipush 260, 3) := by decide +kernel
theorem dX4_parseTest_63 : decode cX4_parseTest 63 = .ok (.invokevirtual 37, 3) := by decide +kernel
theorem dX4_parseTest_66 : decode cX4_parseTest 66 = .ok (.ifCond .ne 6, 3) := by decide +kernel
theorem dX4_parseTest_69 : decode cX4_parseTest 69 = .ok (.goto 9, 3) := by decide +kernel
theorem dX4_parseTest_72 : decode cX4_parseTest 72 = .ok (.iinc 6 1, 3) := by decide +kernel
theorem dX4_parseTest_75 : decode cX4_parseTest 75 = .ok (.goto (-64), 3) := by decide +kernel
theorem dX4_parseTest_78 : decode cX4_parseTest 78 = .ok (.lload_n 2, 1) := by decide +kernel
theorem dX4_parseTest_79 : decode cX4_parseTest 79 = .ok (.lreturn, 1) := by decide +kernel
theorem dX4_parseFact_0 : decode cX4_parseFact 0 = .ok (.aload_n 0, 1) := by decide +kernel
theorem dX4_parseFact_1 : decode cX4_parseFact 1 = .ok (.getfield 9, 3) := by decide +kernel
theorem dX4_parseFact_4 : decode cX4_parseFact 4 = .ok (.sipush 262, 3) := by decide +kernel
theorem dX4_parseFact_7 : decode cX4_parseFact 7 = .ok (.invokevirtual 65, 3) := by decide +kernel
theorem dX4_parseFact_10 : decode cX4_parseFact 10 = .ok (.istore_n 2, 1) := by decide +kernel
theorem dX4_parseFact_11 : decode cX4_parseFact 11 = .ok (.iload_n 2, 1) := by decide +kernel
theorem dX4_parseFact_12 : decode cX4_parseFact 12 = .ok (.ifCond .ne 20, 3) := by decide +kernel
theorem dX4_parseFact_15 : decode cX4_parseFact 15 = .ok (.aload_n 0, 1) := by decide +kernel
theorem dX4_parseFact_16 : decode cX4_parseFact 16 = .ok (.getfield 9, 3) := by decide +kernel
theorem dX4_parseFact_19 : decode cX4_parseFact 19 = .ok (.bipush 123, 2) := by decide +kernel
theorem dX4_parseFact_21 : decode cX4_parseFact 21 = .ok (.invokevirtual 65, 3) := by decide +kernel
theorem dX4_parseFact_24 : decode cX4_parseFact 24 = .ok (.ifCond .ne 8, 3) := by decide +kernel
theorem dX4_parseFact_27 : decode cX4_parseFact 27 = .ok (.aload_n 0, 1) := by decide +kernel
theorem dX4_parseFact_28 : decode cX4_parseFact 28 = .ok (.invokevirtual 68, 3) := by decide +kernel
theorem dX4_parseFact_31 : decode cX4_parseFact 31 = .ok (.lreturn, 1) := by decide +kernel
theorem dX4_parseFact_32 : decode cX4_parseFact 32 = .ok (.iload_n 1, 1) := by decide +kernel
theorem dX4_parseFact_33 : decode cX4_parseFact 33 = .ok (.bipush 6, 2) := by decide +kernel
theorem dX4_parseFact_35 : decode cX4_parseFact 35 = .ok (.if_icmp .lt 13, 3) := by decide +kernel
theorem dX4_parseFact_38 : decode cX4_parseFact 38 = .ok (.aload_n 0, 1) := by decide +kernel
theorem dX4_parseFact_39 : decode cX4_parseFact 39 = .ok (.getfield 9, 3) := by decide +kernel
theorem dX4_parseFact_42 : decode cX4_parseFact 42 = .ok (.iconst 3, 1) := by decide +kernel
theorem dX4_parseFact_43 : decode cX4_parseFact 43 = .ok (.invokevirtual 72, 3) := by decide +kernel
theorem dX4_parseFact_46 : decode cX4_parseFact 46 = .ok (.lconst 0, 1) := by decide +kernel
theorem dX4_parseFact_47 : decode cX4_parseFact 47 = .ok (.lreturn, 1) := by decide +kernel
theorem dX4_parseFact_48 : decode cX4_parseFact 48 = .ok (.aload_n 0, 1) := by decide +kernel
theorem dX4_parseFact_49 : decode cX4_parseFact 49 = .ok (.getfield 9, 3) := by decide +kernel
theorem dX4_parseFact_52 : decode cX4_parseFact 52 = .ok (.sipush 262, 3) := by decide +kernel
theorem dX4_parseFact_55 : decode cX4_parseFact 55 = .ok (.invokevirtual 37, 3) := by decide +kernel
theorem dX4_parseFact_58 : decode cX4_parseFact 58 = .ok (.ifCond .eq 20, 3) := by decide +kernel
theorem dX4_parseFact_61 : decode cX4_parseFact 61 = .ok (.aload_n 0, 1) := by decide +kernel
theorem dX4_parseFact_62 : decode cX4_parseFact 62 = .ok (.getfield 31, 3) := by decide +kernel
theorem dX4_parseFact_65 : decode cX4_parseFact 65 = .ok (.aload_n 0, 1) := by decide +kernel
theorem dX4_parseFact_66 : decode cX4_parseFact 66 = .ok (.iload_n 1, 1) := by decide +kernel
theorem dX4_parseFact_67 : decode cX4_parseFact 67 = .ok (.iconst 1, 1) := by decide +kernel
theorem dX4_parseFact_68 : decode cX4_parseFact 68 = .ok (.iadd, 1) := by decide +kernel
theorem dX4_parseFact_69 : decode cX4_parseFact 69 = .ok (.invokevirtual 62, 3) := by decide +kernel
theorem dX4_parseFact_72 : decode cX4_parseFact 72 = .ok (.ldc2_w 75, 3) := by decide +kernel
theorem dX4_parseFact_75 : decode cX4_parseFact 75 = .ok (.lxor, 1) := by decide +kernel
theorem dX4_parseFact_76 : decode cX4_parseFact 76 = .ok (.land, 1) := by decide +kernel
theorem dX4_parseFact_77 : decode cX4_parseFact 77 = .ok (.lreturn, 1) := by decide +kernel
theorem dX4_parseFact_78 : decode cX4_parseFact 78 = .ok (.aload_n 0, 1) := by decide +kernel
theorem dX4_parseFact_79 : decode cX4_parseFact 79 = .ok (.getfield 9, 3) := by decide +kernel
theorem dX4_parseFact_82 : decode cX4_parseFact 82 = .ok (.bipush 123, 2) := by decide +kernel
theorem dX4_parseFact_84 : decode cX4_parseFact 84 = .ok (.invokevirtual 41, 3) := by decide +kernel
theorem dX4_parseFact_87 : decode cX4_parseFact 87 = .ok (.aload_n 0, 1) := by decide +kernel
theorem dX4_parseFact_88 : decode cX4_parseFact 88 = .ok (.iload_n 1, 1) := by decide +kernel
theorem dX4_parseFact_89 : decode cX4_parseFact 89 = .ok (.iconst 1, 1) := by decide +kernel
theorem dX4_parseFact_90 : decode cX4_parseFact 90 = .ok (.iadd, 1) := by decide +kernel
theorem dX4_parseFact_91 : decode cX4_parseFact 91 = .ok (.invokevirtual 45, 3) := by decide +kernel
theorem dX4_parseFact_94 : decode cX4_parseFact 94 = .ok (.lstore_n 3, 1) := by decide +kernel
theorem dX4_parseFact_95 : decode cX4_parseFact 95 = .ok (.aload_n 0, 1) := by decide +kernel
theorem dX4_parseFact_96 : decode cX4_parseFact 96 = .ok (.getfield 9, 3) := by decide +kernel
theorem dX4_parseFact_99 : decode cX4_parseFact 99 = .ok (.bipush 125, 2) := by decide +kernel
theorem dX4_parseFact_101 : decode cX4_parseFact 101 = .ok (.invokevirtual 41, 3) := by decide +kernel
theorem dX4_parseFact_104 : decode cX4_parseFact 104 = .ok (.lload_n 3, 1) := by decide +kernel
theorem dX4_parseFact_105 : decode cX4_parseFact 105 = .ok (.lreturn, 1) := by decide +kernel
theorem dX4_parseComparison_0 : decode cX4_parseComparison 0 = .ok (.aload_n 0, 1) := by decide +kernel
theorem dX4_parseComparison_1 : decode cX4_parseComparison 1 = .ok (.invokevirtual 77, 3) := by decide +kernel
theorem dX4_parseComparison_4 : decode cX4_parseComparison 4 = .ok (.istore_n 1, 1) := by decide +kernel
theorem dX4_parseComparison_5 : decode cX4_parseComparison 5 = .ok (.iload_n 1, 1) := by decide +kernel
theorem dX4_parseComparison_6 : decode cX4_parseComparison 6 = .ok (.sipush 256, 3) := by decide +kernel
theorem dX4_parseComparison_9 : decode cX4_parseComparison 9 = .ok (.if_icmp .ne 14, 3) := by decide +kernel
theorem dX4_parseComparison_12 : decode cX4_parseComparison 12 = .ok (.aload_n 0, 1) := by decide +kernel
theorem dX4_parseComparison_13 : decode cX4_parseComparison 13 = .ok (.getfield 9, 3) := by decide +kernel
theorem dX4_parseComparison_16 : decode cX4_parseComparison 16 = .ok (.iconst 0, 1) := by decide +kernel
theorem dX4_parseComparison_17 : decode cX4_parseComparison 17 = .ok (.invokevirtual 81, 3) := by decide +kernel
theorem dX4_parseComparison_20 : decode cX4_parseComparison 20 = .ok (.goto 4, 3) := by decide +kernel
theorem dX4_parseComparison_23 : decode cX4_parseComparison 23 = .ok (.iconst 0, 1) := by decide +kernel
theorem dX4_parseComparison_24 : decode cX4_parseComparison 24 = .ok (.istore_n 2, 1) := by decide +kernel
theorem dX4_parseComparison_25 : decode cX4_parseComparison 25 = .ok (.aload_n 0, 1) := by decide +kernel
theorem dX4_parseComparison_26 : decode cX4_parseComparison 26 = .ok (.invokevirtual 85, 3) := by decide +kernel
theorem dX4_parseComparison_29 : decode cX4_parseComparison 29 = .ok (.istore_n 3, 1) := by decide +kernel
theorem dX4_parseComparison_30 : decode cX4_parseComparison 30 = .ok (.aload_n 0, 1) := by decide +kernel
theorem dX4_parseComparison_31 : decode cX4_parseComparison 31 = .ok (.invokevirtual 77, 3) := by decide +kernel
theorem dX4_parseComparison_34 : decode cX4_parseComparison 34 = .ok (.istore 4, 2) := by decide +kernel
theorem dX4_parseComparison_36 : decode cX4_parseComparison 36 = .ok (.iload 4, 2) := by decide +kernel
theorem dX4_parseComparison_38 : decode cX4_parseComparison 38 = .ok (.sipush 256, 3) := by decide +kernel
theorem dX4_parseComparison_41 : decode cX4_parseComparison 41 = .ok (.if_icmp .ne 14, 3) := by decide +kernel
theorem dX4_parseComparison_44 : decode cX4_parseComparison 44 = .ok (.aload_n 0, 1) := by decide +kernel
theorem dX4_parseComparison_45 : decode cX4_parseComparison 45 = .ok (.getfield 9, 3) := by decide +kernel
theorem dX4_parseComparison_48 : decode cX4_parseComparison 48 = .ok (.iconst 0, 1) := by decide +kernel
theorem dX4_parseComparison_49 : decode cX4_parseComparison 49 = .ok (.invokevirtual 81, 3) := by decide +kernel
theorem dX4_parseComparison_52 : decode cX4_parseComparison 52 = .ok (.goto 4, 3) := by decide +kernel
theorem dX4_parseComparison_55 : decode cX4_parseComparison 55 = .ok (.iconst 0, 1) := by decide +kernel
theorem dX4_parseComparison_56 : decode cX4_parseComparison 56 = .ok (.istore 5, 2) := by decide +kernel
theorem dX4_parseComparison_58 : decode cX4_parseComparison 58 = .ok (.lconst 0, 1) := by decide +kernel
theorem dX4_parseComparison_59 : decode cX4_parseComparison 59 = .ok (.lstore 6, 2) := by decide +kernel
theorem dX4_parseComparison_61 : decode cX4_parseComparison 61 = .ok (.lconst 0, 1) := by decide +kernel
theorem dX4_parseComparison_62 : decode cX4_parseComparison 62 = .ok (.lstore 8, 2) := by decide +kernel
theorem dX4_parseComparison_64 : decode cX4_parseComparison 64 = .ok (.iconst 0, 1) := by decide +kernel
theorem dX4_parseComparison_65 : decode cX4_parseComparison 65 = .ok (.istore 10, 2) := by decide +kernel
theorem dX4_parseComparison_67 : decode cX4_parseComparison 67 = .ok (.iload 10, 2) := by decide +kernel
theorem dX4_parseComparison_69 : decode cX4_parseComparison 69 = .ok (.aload_n 0, 1) := by decide +kernel
theorem dX4_parseComparison_70 : decode cX4_parseComparison 70 = .ok (.getfield 15, 3) := by decide +kernel
theorem dX4_parseComparison_73 : decode cX4_parseComparison 73 = .ok (.getfield 19, 3) := by decide +kernel
theorem dX4_parseComparison_76 : decode cX4_parseComparison 76 = .ok (.if_icmp .ge 128, 3) := by decide +kernel
theorem dX4_parseComparison_79 : decode cX4_parseComparison 79 = .ok (.iload 10, 2) := by decide +kernel
theorem dX4_parseComparison_81 : decode cX4_parseComparison 81 = .ok (.bipush 60, 2) := by decide +kernel
theorem dX4_parseComparison_83 : decode cX4_parseComparison 83 = .ok (.if_icmp .ge 121, 3) := by decide +kernel
theorem dX4_parseComparison_86 : decode cX4_parseComparison 86 = .ok (.aload_n 0, 1) := by decide +kernel
theorem dX4_parseComparison_87 : decode cX4_parseComparison 87 = .ok (.getfield 9, 3) := by decide +kernel
theorem dX4_parseComparison_90 : decode cX4_parseComparison 90 = .ok (.getfield 49, 3) := by decide +kernel
theorem dX4_parseComparison_93 : decode cX4_parseComparison 93 = .ok (.ifCond .ne 111, 3) := by decide +kernel
theorem dX4_parseComparison_96 : decode cX4_parseComparison 96 = .ok (.lload 8, 2) := by decide +kernel
theorem dX4_parseComparison_98 : decode cX4_parseComparison 98 = .ok (.aload_n 0, 1) := by decide +kernel
theorem dX4_parseComparison_99 : decode cX4_parseComparison 99 = .ok (.getfield 15, 3) := by decide +kernel
theorem dX4_parseComparison_102 : decode cX4_parseComparison 102 = .ok (.iload 10, 2) := by decide +kernel
theorem dX4_parseComparison_104 : decode cX4_parseComparison 104 = .ok (.invokevirtual 88, 3) := by decide +kernel
theorem dX4_parseComparison_107 : decode cX4_parseComparison 107 = .ok (.i2l, 1) := by decide +kernel
theorem dX4_parseComparison_108 : decode cX4_parseComparison 108 = .ok (.ladd, 1) := by decide +kernel
theorem dX4_parseComparison_109 : decode cX4_parseComparison 109 = .ok (.lstore 8, 2) := by decide +kernel
theorem dX4_parseComparison_111 : decode cX4_parseComparison 111 = .ok (.iload_n 1, 1) := by decide +kernel
theorem dX4_parseComparison_112 : decode cX4_parseComparison 112 = .ok (.sipush 256, 3) := by decide +kernel
theorem dX4_parseComparison_115 : decode cX4_parseComparison 115 = .ok (.if_icmp .ne 8, 3) := by decide +kernel
theorem dX4_parseComparison_118 : decode cX4_parseComparison 118 = .ok (.iload_n 2, 1) := by decide +kernel
theorem dX4_parseComparison_119 : decode cX4_parseComparison 119 = .ok (.i2l, 1) := by decide +kernel
theorem dX4_parseComparison_120 : decode cX4_parseComparison 120 = .ok (.goto 12, 3) := by decide +kernel
theorem dX4_parseComparison_123 : decode cX4_parseComparison 123 = .ok (.aload_n 0, 1) := by decide +kernel
theorem dX4_parseComparison_124 : decode cX4_parseComparison 124 = .ok (.iload_n 1, 1) := by decide +kernel
theorem dX4_parseComparison_125 : decode cX4_parseComparison 125 = .ok (.iload 10, 2) := by decide +kernel
theorem dX4_parseComparison_127 : decode cX4_parseComparison 127 = .ok (.lload 8, 2) := by decide +kernel
theorem dX4_parseComparison_129 : decode cX4_parseComparison 129 = .ok (.invokevirtual 91, 3) := by decide +kernel
theorem dX4_parseComparison_132 : decode cX4_parseComparison 132 = .ok (.lstore 11, 2) := by decide +kernel
theorem dX4_parseComparison_134 : decode cX4_parseComparison 134 = .ok (.iload 4, 2) := by decide +kernel
theorem dX4_parseComparison_136 : decode cX4_parseComparison 136 = .ok (.sipush 256, 3) := by decide +kernel
theorem dX4_parseComparison_139 : decode cX4_parseComparison 139 = .ok (.if_icmp .ne 9, 3) := by decide +kernel
theorem dX4_parseComparison_142 : decode cX4_parseComparison 142 = .ok (.iload 5, 2) := by decide +kernel
theorem dX4_parseComparison_144 : decode cX4_parseComparison 144 = .ok (.i2l, 1) := by decide +kernel
theorem dX4_parseComparison_145 : decode cX4_parseComparison 145 = .ok (.goto 13, 3) := by decide +kernel
theorem dX4_parseComparison_148 : decode cX4_parseComparison 148 = .ok (.aload_n 0, 1) := by decide +kernel
theorem dX4_parseComparison_149 : decode cX4_parseComparison 149 = .ok (.iload 4, 2) := by decide +kernel
theorem dX4_parseComparison_151 : decode cX4_parseComparison 151 = .ok (.iload 10, 2) := by decide +kernel
theorem dX4_parseComparison_153 : decode cX4_parseComparison 153 = .ok (.lload 8, 2) := by decide +kernel
theorem dX4_parseComparison_155 : decode cX4_parseComparison 155 = .ok (.invokevirtual 91, 3) := by decide +kernel
theorem dX4_parseComparison_158 : decode cX4_parseComparison 158 = .ok (.lstore 13, 2) := by decide +kernel
theorem dX4_parseComparison_160 : decode cX4_parseComparison 160 = .ok (.iload_n 3, 1) := by decide +kernel
theorem dX4_parseComparison_161 : decode cX4_parseComparison 161 = .ok (.lload 11, 2) := by decide +kernel
theorem dX4_parseComparison_163 : decode cX4_parseComparison 163 = .ok (.lload 13, 2) := by decide +kernel
theorem dX4_parseComparison_165 : decode cX4_parseComparison 165 = .ok (.lcmp, 1) := by decide +kernel
theorem dX4_parseComparison_166 : decode cX4_parseComparison 166 = .ok (.ifCond .ge 7, 3) := by decide +kernel
theorem dX4_parseComparison_169 : decode cX4_parseComparison 169 = .ok (.iconst (-1), 1) := by decide +kernel
theorem dX4_parseComparison_170 : decode cX4_parseComparison 170 = .ok (.goto 16, 3) := by decide +kernel
theorem dX4_parseComparison_173 : decode cX4_parseComparison 173 = .ok (.lload 11, 2) := by decide +kernel
theorem dX4_parseComparison_175 : decode cX4_parseComparison 175 = .ok (.lload 13, 2) := by decide +kernel
theorem dX4_parseComparison_177 : decode cX4_parseComparison 177 = .ok (.lcmp, 1) := by decide +kernel
theorem dX4_parseComparison_178 : decode cX4_parseComparison 178 = .ok (.ifCond .le 7, 3) := by decide +kernel
theorem dX4_parseComparison_181 : decode cX4_parseComparison 181 = .ok (.iconst 1, 1) := by decide +kernel
theorem dX4_parseComparison_182 : decode cX4_parseComparison 182 = .ok (.goto 4, 3) := by decide +kernel
theorem dX4_parseComparison_185 : decode cX4_parseComparison 185 = .ok (.iconst 0, 1) := by decide +kernel
theorem dX4_parseComparison_186 : decode cX4_parseComparison 186 = .ok (.if_icmp .ne 12, 3) := by decide +kernel
theorem dX4_parseComparison_189 : decode cX4_parseComparison 189 = .ok (.lload 6, 2) := by decide +kernel
theorem dX4_parseComparison_191 : decode cX4_parseComparison 191 = .ok (.lconst 1, 1) := by decide +kernel
theorem dX4_parseComparison_192 : decode cX4_parseComparison 192 = .ok (.iload 10, 2) := by decide +kernel
theorem dX4_parseComparison_194 : decode cX4_parseComparison 194 = .ok (.lshl, 1) := by decide +kernel
theorem dX4_parseComparison_195 : decode cX4_parseComparison 195 = .ok (.lor, 1) := by decide +kernel
theorem dX4_parseComparison_196 : decode cX4_parseComparison 196 = .ok (.lstore 6, 2) := by decide +kernel
theorem dX4_parseComparison_198 : decode cX4_parseComparison 198 = .ok (.iinc 10 1, 3) := by decide +kernel
theorem dX4_parseComparison_201 : decode cX4_parseComparison 201 = .ok (.goto (-134), 3) := by decide +kernel
theorem dX4_parseComparison_204 : decode cX4_parseComparison 204 = .ok (.lload 6, 2) := by decide +kernel
theorem dX4_parseComparison_206 : decode cX4_parseComparison 206 = .ok (.lreturn, 1) := by decide +kernel
theorem dX4_parseValueCode_0 : decode cX4_parseValueCode 0 = .ok (.sipush 263, 3) := by decide +kernel
theorem dX4_parseValueCode_3 : decode cX4_parseValueCode 3 = .ok (.istore_n 1, 1) := by decide +kernel
theorem dX4_parseValueCode_4 : decode cX4_parseValueCode 4 = .ok (.iload_n 1, 1) := by decide +kernel
theorem dX4_parseValueCode_5 : decode cX4_parseValueCode 5 = .ok (.sipush 267, 3) := by decide +kernel
theorem dX4_parseValueCode_8 : decode cX4_parseValueCode 8 = .ok (.if_icmp .gt 22, 3) := by decide +kernel
theorem dX4_parseValueCode_11 : decode cX4_parseValueCode 11 = .ok (.aload_n 0, 1) := by decide +kernel
theorem dX4_parseValueCode_12 : decode cX4_parseValueCode 12 = .ok (.getfield 9, 3) := by decide +kernel
theorem dX4_parseValueCode_15 : decode cX4_parseValueCode 15 = .ok (.iload_n 1, 1) := by decide +kernel
theorem dX4_parseValueCode_16 : decode cX4_parseValueCode 16 = .ok (.invokevirtual 37, 3) := by decide +kernel
theorem dX4_parseValueCode_19 : decode cX4_parseValueCode 19 = .ok (.ifCond .eq 5, 3) := by decide +kernel
theorem dX4_parseValueCode_22 : decode cX4_parseValueCode 22 = .ok (.iload_n 1, 1) := by decide +kernel
theorem dX4_parseValueCode_23 : decode cX4_parseValueCode 23 = .ok (.ireturn, 1) := by decide +kernel
theorem dX4_parseValueCode_24 : decode cX4_parseValueCode 24 = .ok (.iinc 1 1, 3) := by decide +kernel
theorem dX4_parseValueCode_27 : decode cX4_parseValueCode 27 = .ok (.goto (-23), 3) := by decide +kernel
theorem dX4_parseValueCode_30 : decode cX4_parseValueCode 30 = .ok (.sipush 256, 3) := by decide +kernel
theorem dX4_parseValueCode_33 : decode cX4_parseValueCode 33 = .ok (.ireturn, 1) := by decide +kernel
theorem dX4_parseCompareSign_0 : decode cX4_parseCompareSign 0 = .ok (.aload_n 0, 1) := by decide +kernel
theorem dX4_parseCompareSign_1 : decode cX4_parseCompareSign 1 = .ok (.getfield 9, 3) := by decide +kernel
theorem dX4_parseCompareSign_4 : decode cX4_parseCompareSign 4 = .ok (.bipush 60, 2) := by decide +kernel
theorem dX4_parseCompareSign_6 : decode cX4_parseCompareSign 6 = .ok (.invokevirtual 37, 3) := by decide +kernel
theorem dX4_parseCompareSign_9 : decode cX4_parseCompareSign 9 = .ok (.ifCond .eq 5, 3) := by decide +kernel
theorem dX4_parseCompareSign_12 : decode cX4_parseCompareSign 12 = .ok (.iconst (-1), 1) := by decide +kernel
theorem dX4_parseCompareSign_13 : decode cX4_parseCompareSign 13 = .ok (.ireturn, 1) := by decide +kernel
theorem dX4_parseCompareSign_14 : decode cX4_parseCompareSign 14 = .ok (.aload_n 0, 1) := by decide +kernel
theorem dX4_parseCompareSign_15 : decode cX4_parseCompareSign 15 = .ok (.getfield 9, 3) := by decide +kernel
theorem dX4_parseCompareSign_18 : decode cX4_parseCompareSign 18 = .ok (.bipush 62, 2) := by decide +kernel
theorem dX4_parseCompareSign_20 : decode cX4_parseCompareSign 20 = .ok (.invokevirtual 37, 3) := by decide +kernel
theorem dX4_parseCompareSign_23 : decode cX4_parseCompareSign 23 = .ok (.ifCond .eq 5, 3) := by decide +kernel
theorem dX4_parseCompareSign_26 : decode cX4_parseCompareSign 26 = .ok (.iconst 1, 1) := by decide +kernel
theorem dX4_parseCompareSign_27 : decode cX4_parseCompareSign 27 = .ok (.ireturn, 1) := by decide +kernel
theorem dX4_parseCompareSign_28 : decode cX4_parseCompareSign 28 = .ok (.aload_n 0, 1) := by decide +kernel
theorem dX4_parseCompareSign_29 : decode cX4_parseCompareSign 29 = .ok (.getfield 9, 3) := by decide +kernel
theorem dX4_parseCompareSign_32 : decode cX4_parseCompareSign 32 = .ok (.bipush 61, 2) := by decide +kernel
theorem dX4_parseCompareSign_34 : decode cX4_parseCompareSign 34 = .ok (.invokevirtual 37, 3) := by decide +kernel
theorem dX4_parseCompareSign_37 : decode cX4_parseCompareSign 37 = .ok (.ifCond .ne 11, 3) := by decide +kernel
theorem dX4_parseCompareSign_40 : decode cX4_parseCompareSign 40 = .ok (.aload_n 0, 1) := by decide +kernel
theorem dX4_parseCompareSign_41 : decode cX4_parseCompareSign 41 = .ok (.getfield 9, 3) := by decide +kernel
theorem dX4_parseCompareSign_44 : decode cX4_parseCompareSign 44 = .ok (.iconst 1, 1) := by decide +kernel
theorem dX4_parseCompareSign_45 : decode cX4_parseCompareSign 45 = .ok (.invokevirtual 72, 3) := by decide +kernel
theorem dX4_parseCompareSign_48 : decode cX4_parseCompareSign 48 = .ok (.iconst 0, 1) := by decide +kernel
theorem dX4_parseCompareSign_49 : decode cX4_parseCompareSign 49 = .ok (.ireturn, 1) := by decide +kernel
theorem dX4_valueAt_0 : decode cX4_valueAt 0 = .ok (.iload_n 1, 1) := by decide +kernel
theorem dX4_valueAt_1 : decode cX4_valueAt 1 = .ok (.tableswitch 66 263 266 #[31, 34, 44, 64], 31) := by decide +kernel
theorem dX4_valueAt_32 : decode cX4_valueAt 32 = .ok (.iload_n 2, 1) := by decide +kernel
theorem dX4_valueAt_33 : decode cX4_valueAt 33 = .ok (.i2l, 1) := by decide +kernel
theorem dX4_valueAt_34 : decode cX4_valueAt 34 = .ok (.lreturn, 1) := by decide +kernel
theorem dX4_valueAt_35 : decode cX4_valueAt 35 = .ok (.aload_n 0, 1) := by decide +kernel
theorem dX4_valueAt_36 : decode cX4_valueAt 36 = .ok (.getfield 15, 3) := by decide +kernel
theorem dX4_valueAt_39 : decode cX4_valueAt 39 = .ok (.iload_n 2, 1) := by decide +kernel
theorem dX4_valueAt_40 : decode cX4_valueAt 40 = .ok (.invokevirtual 88, 3) := by decide +kernel
theorem dX4_valueAt_43 : decode cX4_valueAt 43 = .ok (.i2l, 1) := by decide +kernel
theorem dX4_valueAt_44 : decode cX4_valueAt 44 = .ok (.lreturn, 1) := by decide +kernel
theorem dX4_valueAt_45 : decode cX4_valueAt 45 = .ok (.iload_n 2, 1) := by decide +kernel
theorem dX4_valueAt_46 : decode cX4_valueAt 46 = .ok (.ifCond .ne 7, 3) := by decide +kernel
theorem dX4_valueAt_49 : decode cX4_valueAt 49 = .ok (.lconst 0, 1) := by decide +kernel
theorem dX4_valueAt_50 : decode cX4_valueAt 50 = .ok (.goto 14, 3) := by decide +kernel
theorem dX4_valueAt_53 : decode cX4_valueAt 53 = .ok (.aload_n 0, 1) := by decide +kernel
theorem dX4_valueAt_54 : decode cX4_valueAt 54 = .ok (.getfield 15, 3) := by decide +kernel
theorem dX4_valueAt_57 : decode cX4_valueAt 57 = .ok (.iload_n 2, 1) := by decide +kernel
theorem dX4_valueAt_58 : decode cX4_valueAt 58 = .ok (.iconst 1, 1) := by decide +kernel
theorem dX4_valueAt_59 : decode cX4_valueAt 59 = .ok (.isub, 1) := by decide +kernel
theorem dX4_valueAt_60 : decode cX4_valueAt 60 = .ok (.invokevirtual 88, 3) := by decide +kernel
theorem dX4_valueAt_63 : decode cX4_valueAt 63 = .ok (.i2l, 1) := by decide +kernel
theorem dX4_valueAt_64 : decode cX4_valueAt 64 = .ok (.lreturn, 1) := by decide +kernel
theorem dX4_valueAt_65 : decode cX4_valueAt 65 = .ok (.lload_n 3, 1) := by decide +kernel
theorem dX4_valueAt_66 : decode cX4_valueAt 66 = .ok (.lreturn, 1) := by decide +kernel
theorem dX4_valueAt_67 : decode cX4_valueAt 67 = .ok (.aload_n 0, 1) := by decide +kernel
theorem dX4_valueAt_68 : decode cX4_valueAt 68 = .ok (.getfield 15, 3) := by decide +kernel
theorem dX4_valueAt_71 : decode cX4_valueAt 71 = .ok (.getfield 19, 3) := by decide +kernel
theorem dX4_valueAt_74 : decode cX4_valueAt 74 = .ok (.iconst 1, 1) := by decide +kernel
theorem dX4_valueAt_75 : decode cX4_valueAt 75 = .ok (.isub, 1) := by decide +kernel
theorem dX4_valueAt_76 : decode cX4_valueAt 76 = .ok (.iload_n 2, 1) := by decide +kernel
theorem dX4_valueAt_77 : decode cX4_valueAt 77 = .ok (.isub, 1) := by decide +kernel
theorem dX4_valueAt_78 : decode cX4_valueAt 78 = .ok (.i2l, 1) := by decide +kernel
theorem dX4_valueAt_79 : decode cX4_valueAt 79 = .ok (.lreturn, 1) := by decide +kernel
theorem dX5_init_0 : decode cX5_init 0 = .ok (.aload_n 0, 1) := by decide +kernel
theorem dX5_init_1 : decode cX5_init 1 = .ok (.invokespecial 3, 3) := by decide +kernel
theorem dX5_init_4 : decode cX5_init 4 = .ok (.aload_n 0, 1) := by decide +kernel
theorem dX5_init_5 : decode cX5_init 5 = .ok (.new 9, 3) := by decide +kernel
theorem dX5_init_8 : decode cX5_init 8 = .ok (.dup, 1) := by decide +kernel
theorem dX5_init_9 : decode cX5_init 9 = .ok (.invokespecial 11, 3) := by decide +kernel
theorem dX5_init_12 : decode cX5_init 12 = .ok (.putfield 12, 3) := by decide +kernel
theorem dX5_init_15 : decode cX5_init 15 = .ok (.aload_n 0, 1) := by decide +kernel
theorem dX5_init_16 : decode cX5_init 16 = .ok (.new 9, 3) := by decide +kernel
theorem dX5_init_19 : decode cX5_init 19 = .ok (.dup, 1) := by decide +kernel
theorem dX5_init_20 : decode cX5_init 20 = .ok (.invokespecial 11, 3) := by decide +kernel
theorem dX5_init_23 : decode cX5_init 23 = .ok (.putfield 18, 3) := by decide +kernel
theorem dX5_init_26 : decode cX5_init 26 = .ok (.return_, 1) := by decide +kernel
theorem dX5_startSingle_0 : decode cX5_startSingle 0 = .ok (.aload_n 0, 1) := by decide +kernel
theorem dX5_startSingle_1 : decode cX5_startSingle 1 = .ok (.aload_n 1, 1) := by decide +kernel
theorem dX5_startSingle_2 : decode cX5_startSingle 2 = .ok (.aconst_null, 1) := by decide +kernel
theorem dX5_startSingle_3 : decode cX5_startSingle 3 = .ok (.invokevirtual 21, 3) := by decide +kernel
theorem dX5_startSingle_6 : decode cX5_startSingle 6 = .ok (.aload_n 0, 1) := by decide +kernel
theorem dX5_startSingle_7 : decode cX5_startSingle 7 = .ok (.getfield 12, 3) := by decide +kernel
theorem dX5_startSingle_10 : decode cX5_startSingle 10 = .ok (.iload_n 2, 1) := by decide +kernel
theorem dX5_startSingle_11 : decode cX5_startSingle 11 = .ok (.i2l, 1) := by decide +kernel
theorem dX5_startSingle_12 : decode cX5_startSingle 12 = .ok (.lconst 0, 1) := by decide +kernel
theorem dX5_startSingle_13 : decode cX5_startSingle 13 = .ok (.iload_n 3, 1) := by decide +kernel
theorem dX5_startSingle_14 : decode cX5_startSingle 14 = .ok (.i2l, 1) := by decide +kernel
theorem dX5_startSingle_15 : decode cX5_startSingle 15 = .ok (.lconst 0, 1) := by decide +kernel
theorem dX5_startSingle_16 : decode cX5_startSingle 16 = .ok (.invokevirtual 25, 3) := by decide +kernel
theorem dX5_startSingle_19 : decode cX5_startSingle 19 = .ok (.aload_n 0, 1) := by decide +kernel
theorem dX5_startSingle_20 : decode cX5_startSingle 20 = .ok (.getfield 18, 3) := by decide +kernel
theorem dX5_startSingle_23 : decode cX5_startSingle 23 = .ok (.iload 4, 2) := by decide +kernel
theorem dX5_startSingle_25 : decode cX5_startSingle 25 = .ok (.i2l, 1) := by decide +kernel
theorem dX5_startSingle_26 : decode cX5_startSingle 26 = .ok (.lconst 0, 1) := by decide +kernel
theorem dX5_startSingle_27 : decode cX5_startSingle 27 = .ok (.iload 5, 2) := by decide +kernel
theorem dX5_startSingle_29 : decode cX5_startSingle 29 = .ok (.i2l, 1) := by decide +kernel
theorem dX5_startSingle_30 : decode cX5_startSingle 30 = .ok (.lconst 0, 1) := by decide +kernel
theorem dX5_startSingle_31 : decode cX5_startSingle 31 = .ok (.invokevirtual 25, 3) := by decide +kernel
theorem dX5_startSingle_34 : decode cX5_startSingle 34 = .ok (.return_, 1) := by decide +kernel
theorem dX5_startDouble_0 : decode cX5_startDouble 0 = .ok (.aload_n 0, 1) := by decide +kernel
theorem dX5_startDouble_1 : decode cX5_startDouble 1 = .ok (.aload_n 2, 1) := by decide +kernel
theorem dX5_startDouble_2 : decode cX5_startDouble 2 = .ok (.aload_n 3, 1) := by decide +kernel
theorem dX5_startDouble_3 : decode cX5_startDouble 3 = .ok (.invokevirtual 21, 3) := by decide +kernel
theorem dX5_startDouble_6 : decode cX5_startDouble 6 = .ok (.aload_n 0, 1) := by decide +kernel
theorem dX5_startDouble_7 : decode cX5_startDouble 7 = .ok (.getfield 12, 3) := by decide +kernel
theorem dX5_startDouble_10 : decode cX5_startDouble 10 = .ok (.iload_n 1, 1) := by decide +kernel
theorem dX5_startDouble_11 : decode cX5_startDouble 11 = .ok (.iconst 2, 1) := by decide +kernel
theorem dX5_startDouble_12 : decode cX5_startDouble 12 = .ok (.if_icmp .ne 7, 3) := by decide +kernel
theorem dX5_startDouble_15 : decode cX5_startDouble 15 = .ok (.lconst 1, 1) := by decide +kernel
theorem dX5_startDouble_16 : decode cX5_startDouble 16 = .ok (.goto 4, 3) := by decide +kernel
theorem dX5_startDouble_19 : decode cX5_startDouble 19 = .ok (.lconst 0, 1) := by decide +kernel
theorem dX5_startDouble_20 : decode cX5_startDouble 20 = .ok (.iload_n 1, 1) := by decide +kernel
theorem dX5_startDouble_21 : decode cX5_startDouble 21 = .ok (.iconst 2, 1) := by decide +kernel
theorem dX5_startDouble_22 : decode cX5_startDouble 22 = .ok (.if_icmp .ne 7, 3) := by decide +kernel
theorem dX5_startDouble_25 : decode cX5_startDouble 25 = .ok (.lconst 0, 1) := by decide +kernel
theorem dX5_startDouble_26 : decode cX5_startDouble 26 = .ok (.goto 4, 3) := by decide +kernel
theorem dX5_startDouble_29 : decode cX5_startDouble 29 = .ok (.lconst 1, 1) := by decide +kernel
theorem dX5_startDouble_30 : decode cX5_startDouble 30 = .ok (.iload_n 1, 1) := by decide +kernel
theorem dX5_startDouble_31 : decode cX5_startDouble 31 = .ok (.ifCond .ne 7, 3) := by decide +kernel
theorem dX5_startDouble_34 : decode cX5_startDouble 34 = .ok (.lconst 1, 1) := by decide +kernel
theorem dX5_startDouble_35 : decode cX5_startDouble 35 = .ok (.goto 15, 3) := by decide +kernel
theorem dX5_startDouble_38 : decode cX5_startDouble 38 = .ok (.iload_n 1, 1) := by decide +kernel
theorem dX5_startDouble_39 : decode cX5_startDouble 39 = .ok (.iconst 1, 1) := by decide +kernel
theorem dX5_startDouble_40 : decode cX5_startDouble 40 = .ok (.if_icmp .ne 9, 3) := by decide +kernel
theorem dX5_startDouble_43 : decode cX5_startDouble 43 = .ok (.ldc2_w 29, 3) := by decide +kernel
theorem dX5_startDouble_46 : decode cX5_startDouble 46 = .ok (.goto 4, 3) := by decide +kernel
theorem dX5_startDouble_49 : decode cX5_startDouble 49 = .ok (.lconst 0, 1) := by decide +kernel
theorem dX5_startDouble_50 : decode cX5_startDouble 50 = .ok (.lconst 0, 1) := by decide +kernel
theorem dX5_startDouble_51 : decode cX5_startDouble 51 = .ok (.invokevirtual 25, 3) := by decide +kernel
theorem dX5_startDouble_54 : decode cX5_startDouble 54 = .ok (.aload_n 0, 1) := by decide +kernel
theorem dX5_startDouble_55 : decode cX5_startDouble 55 = .ok (.getfield 18, 3) := by decide +kernel
theorem dX5_startDouble_58 : decode cX5_startDouble 58 = .ok (.lconst 0, 1) := by decide +kernel
theorem dX5_startDouble_59 : decode cX5_startDouble 59 = .ok (.lconst 0, 1) := by decide +kernel
theorem dX5_startDouble_60 : decode cX5_startDouble 60 = .ok (.iload_n 1, 1) := by decide +kernel
theorem dX5_startDouble_61 : decode cX5_startDouble 61 = .ok (.iconst 3, 1) := by decide +kernel
theorem dX5_startDouble_62 : decode cX5_startDouble 62 = .ok (.if_icmp .ne 7, 3) := by decide +kernel
theorem dX5_startDouble_65 : decode cX5_startDouble 65 = .ok (.lconst 1, 1) := by decide +kernel
theorem dX5_startDouble_66 : decode cX5_startDouble 66 = .ok (.goto 4, 3) := by decide +kernel
theorem dX5_startDouble_69 : decode cX5_startDouble 69 = .ok (.lconst 0, 1) := by decide +kernel
theorem dX5_startDouble_70 : decode cX5_startDouble 70 = .ok (.iload_n 1, 1) := by decide +kernel
theorem dX5_startDouble_71 : decode cX5_startDouble 71 = .ok (.iconst 3, 1) := by decide +kernel
theorem dX5_startDouble_72 : decode cX5_startDouble 72 = .ok (.if_icmp .ne 7, 3) := by decide +kernel
theorem dX5_startDouble_75 : decode cX5_startDouble 75 = .ok (.lconst 0, 1) := by decide +kernel
theorem dX5_startDouble_76 : decode cX5_startDouble 76 = .ok (.goto 4, 3) := by decide +kernel
theorem dX5_startDouble_79 : decode cX5_startDouble 79 = .ok (.lconst 1, 1) := by decide +kernel
theorem dX5_startDouble_80 : decode cX5_startDouble 80 = .ok (.invokevirtual 25, 3) := by decide +kernel
theorem dX5_startDouble_83 : decode cX5_startDouble 83 = .ok (.return_, 1) := by decide +kernel
theorem dX5_begin_0 : decode cX5_begin 0 = .ok (.aload_n 0, 1) := by decide +kernel
theorem dX5_begin_1 : decode cX5_begin 1 = .ok (.aload_n 1, 1) := by decide +kernel
theorem dX5_begin_2 : decode cX5_begin 2 = .ok (.putfield 31, 3) := by decide +kernel
theorem dX5_begin_5 : decode cX5_begin 5 = .ok (.aload_n 0, 1) := by decide +kernel
theorem dX5_begin_6 : decode cX5_begin 6 = .ok (.aload_n 2, 1) := by decide +kernel
theorem dX5_begin_7 : decode cX5_begin 7 = .ok (.putfield 35, 3) := by decide +kernel
theorem dX5_begin_10 : decode cX5_begin 10 = .ok (.aload_n 0, 1) := by decide +kernel
theorem dX5_begin_11 : decode cX5_begin 11 = .ok (.iconst 0, 1) := by decide +kernel
theorem dX5_begin_12 : decode cX5_begin 12 = .ok (.putfield 38, 3) := by decide +kernel
theorem dX5_begin_15 : decode cX5_begin 15 = .ok (.aload_n 0, 1) := by decide +kernel
theorem dX5_begin_16 : decode cX5_begin 16 = .ok (.iconst 0, 1) := by decide +kernel
theorem dX5_begin_17 : decode cX5_begin 17 = .ok (.putfield 42, 3) := by decide +kernel
theorem dX5_begin_20 : decode cX5_begin 20 = .ok (.aload_n 0, 1) := by decide +kernel
theorem dX5_begin_21 : decode cX5_begin 21 = .ok (.iconst 0, 1) := by decide +kernel
theorem dX5_begin_22 : decode cX5_begin 22 = .ok (.putfield 45, 3) := by decide +kernel
theorem dX5_begin_25 : decode cX5_begin 25 = .ok (.aload_n 0, 1) := by decide +kernel
theorem dX5_begin_26 : decode cX5_begin 26 = .ok (.aload_n 1, 1) := by decide +kernel
theorem dX5_begin_27 : decode cX5_begin 27 = .ok (.ifnonnull 7, 3) := by decide +kernel
theorem dX5_begin_30 : decode cX5_begin 30 = .ok (.iconst 1, 1) := by decide +kernel
theorem dX5_begin_31 : decode cX5_begin 31 = .ok (.goto 4, 3) := by decide +kernel
theorem dX5_begin_34 : decode cX5_begin 34 = .ok (.iconst 0, 1) := by decide +kernel
theorem dX5_begin_35 : decode cX5_begin 35 = .ok (.putfield 48, 3) := by decide +kernel
theorem dX5_begin_38 : decode cX5_begin 38 = .ok (.aload_n 0, 1) := by decide +kernel
theorem dX5_begin_39 : decode cX5_begin 39 = .ok (.aload_n 2, 1) := by decide +kernel
theorem dX5_begin_40 : decode cX5_begin 40 = .ok (.ifnonnull 7, 3) := by decide +kernel
theorem dX5_begin_43 : decode cX5_begin 43 = .ok (.iconst 1, 1) := by decide +kernel
theorem dX5_begin_44 : decode cX5_begin 44 = .ok (.goto 4, 3) := by decide +kernel
theorem dX5_begin_47 : decode cX5_begin 47 = .ok (.iconst 0, 1) := by decide +kernel
theorem dX5_begin_48 : decode cX5_begin 48 = .ok (.putfield 52, 3) := by decide +kernel
theorem dX5_begin_51 : decode cX5_begin 51 = .ok (.aload_n 0, 1) := by decide +kernel
theorem dX5_begin_52 : decode cX5_begin 52 = .ok (.iconst 0, 1) := by decide +kernel
theorem dX5_begin_53 : decode cX5_begin 53 = .ok (.putfield 55, 3) := by decide +kernel
theorem dX5_begin_56 : decode cX5_begin 56 = .ok (.return_, 1) := by decide +kernel
theorem dX5_run_0 : decode cX5_run 0 = .ok (.iconst 4, 1) := by decide +kernel
theorem dX5_run_1 : decode cX5_run 1 = .ok (.istore_n 3, 1) := by decide +kernel
theorem dX5_run_2 : decode cX5_run 2 = .ok (.iconst 0, 1) := by decide +kernel
theorem dX5_run_3 : decode cX5_run 3 = .ok (.istore 4, 2) := by decide +kernel
theorem dX5_run_5 : decode cX5_run 5 = .ok (.iload 4, 2) := by decide +kernel
theorem dX5_run_7 : decode cX5_run 7 = .ok (.sipush 200, 3) := by decide +kernel
theorem dX5_run_10 : decode cX5_run 10 = .ok (.if_icmp .ge 137, 3) := by decide +kernel
theorem dX5_run_13 : decode cX5_run 13 = .ok (.iload_n 3, 1) := by decide +kernel
theorem dX5_run_14 : decode cX5_run 14 = .ok (.iconst 4, 1) := by decide +kernel
theorem dX5_run_15 : decode cX5_run 15 = .ok (.if_icmp .ne 132, 3) := by decide +kernel
theorem dX5_run_18 : decode cX5_run 18 = .ok (.aload_n 1, 1) := by decide +kernel
theorem dX5_run_19 : decode cX5_run 19 = .ok (.getfield 58, 3) := by decide +kernel
theorem dX5_run_22 : decode cX5_run 22 = .ok (.iload_n 2, 1) := by decide +kernel
theorem dX5_run_23 : decode cX5_run 23 = .ok (.if_icmp .lt 8, 3) := by decide +kernel
theorem dX5_run_26 : decode cX5_run 26 = .ok (.iconst 0, 1) := by decide +kernel
theorem dX5_run_27 : decode cX5_run 27 = .ok (.istore_n 3, 1) := by decide +kernel
theorem dX5_run_28 : decode cX5_run 28 = .ok (.goto 113, 3) := by decide +kernel
theorem dX5_run_31 : decode cX5_run 31 = .ok (.aload_n 0, 1) := by decide +kernel
theorem dX5_run_32 : decode cX5_run 32 = .ok (.getfield 48, 3) := by decide +kernel
theorem dX5_run_35 : decode cX5_run 35 = .ok (.ifCond .eq 27, 3) := by decide +kernel
theorem dX5_run_38 : decode cX5_run 38 = .ok (.aload_n 0, 1) := by decide +kernel
theorem dX5_run_39 : decode cX5_run 39 = .ok (.getfield 52, 3) := by decide +kernel
theorem dX5_run_42 : decode cX5_run 42 = .ok (.ifCond .eq 20, 3) := by decide +kernel
theorem dX5_run_45 : decode cX5_run 45 = .ok (.aload_n 0, 1) := by decide +kernel
theorem dX5_run_46 : decode cX5_run 46 = .ok (.getfield 18, 3) := by decide +kernel
theorem dX5_run_49 : decode cX5_run 49 = .ok (.getfield 63, 3) := by decide +kernel
theorem dX5_run_52 : decode cX5_run 52 = .ok (.lconst 0, 1) := by decide +kernel
theorem dX5_run_53 : decode cX5_run 53 = .ok (.lcmp, 1) := by decide +kernel
theorem dX5_run_54 : decode cX5_run 54 = .ok (.ifCond .ne 8, 3) := by decide +kernel
theorem dX5_run_57 : decode cX5_run 57 = .ok (.iconst 1, 1) := by decide +kernel
theorem dX5_run_58 : decode cX5_run 58 = .ok (.istore_n 3, 1) := by decide +kernel
theorem dX5_run_59 : decode cX5_run 59 = .ok (.goto 82, 3) := by decide +kernel
theorem dX5_run_62 : decode cX5_run 62 = .ok (.aload_n 0, 1) := by decide +kernel
theorem dX5_run_63 : decode cX5_run 63 = .ok (.invokevirtual 67, 3) := by decide +kernel
theorem dX5_run_66 : decode cX5_run 66 = .ok (.ifCond .eq 12, 3) := by decide +kernel
theorem dX5_run_69 : decode cX5_run 69 = .ok (.aload_n 0, 1) := by decide +kernel
theorem dX5_run_70 : decode cX5_run 70 = .ok (.aload_n 1, 1) := by decide +kernel
theorem dX5_run_71 : decode cX5_run 71 = .ok (.invokevirtual 71, 3) := by decide +kernel
theorem dX5_run_74 : decode cX5_run 74 = .ok (.istore_n 3, 1) := by decide +kernel
theorem dX5_run_75 : decode cX5_run 75 = .ok (.goto 66, 3) := by decide +kernel
theorem dX5_run_78 : decode cX5_run 78 = .ok (.aload_n 0, 1) := by decide +kernel
theorem dX5_run_79 : decode cX5_run 79 = .ok (.getfield 45, 3) := by decide +kernel
theorem dX5_run_82 : decode cX5_run 82 = .ok (.bipush 100, 2) := by decide +kernel
theorem dX5_run_84 : decode cX5_run 84 = .ok (.if_icmp .lt 8, 3) := by decide +kernel
theorem dX5_run_87 : decode cX5_run 87 = .ok (.iconst 3, 1) := by decide +kernel
theorem dX5_run_88 : decode cX5_run 88 = .ok (.istore_n 3, 1) := by decide +kernel
theorem dX5_run_89 : decode cX5_run 89 = .ok (.goto 52, 3) := by decide +kernel
theorem dX5_run_92 : decode cX5_run 92 = .ok (.aload_n 0, 1) := by decide +kernel
theorem dX5_run_93 : decode cX5_run 93 = .ok (.aload_n 0, 1) := by decide +kernel
theorem dX5_run_94 : decode cX5_run 94 = .ok (.getfield 48, 3) := by decide +kernel
theorem dX5_run_97 : decode cX5_run 97 = .ok (.ifCond .ne 21, 3) := by decide +kernel
theorem dX5_run_100 : decode cX5_run 100 = .ok (.aload_n 0, 1) := by decide +kernel
theorem dX5_run_101 : decode cX5_run 101 = .ok (.getfield 52, 3) := by decide +kernel
theorem dX5_run_104 : decode cX5_run 104 = .ok (.ifCond .ne 10, 3) := by decide +kernel
theorem dX5_run_107 : decode cX5_run 107 = .ok (.aload_n 0, 1) := by decide +kernel
theorem dX5_run_108 : decode cX5_run 108 = .ok (.getfield 55, 3) := by decide +kernel
theorem dX5_run_111 : decode cX5_run 111 = .ok (.ifCond .ne 7, 3) := by decide +kernel
theorem dX5_run_114 : decode cX5_run 114 = .ok (.iconst 1, 1) := by decide +kernel
theorem dX5_run_115 : decode cX5_run 115 = .ok (.goto 4, 3) := by decide +kernel
theorem dX5_run_118 : decode cX5_run 118 = .ok (.iconst 0, 1) := by decide +kernel
theorem dX5_run_119 : decode cX5_run 119 = .ok (.putfield 55, 3) := by decide +kernel
theorem dX5_run_122 : decode cX5_run 122 = .ok (.aload_n 0, 1) := by decide +kernel
theorem dX5_run_123 : decode cX5_run 123 = .ok (.getfield 55, 3) := by decide +kernel
theorem dX5_run_126 : decode cX5_run 126 = .ok (.ifCond .eq 10, 3) := by decide +kernel
theorem dX5_run_129 : decode cX5_run 129 = .ok (.aload_n 0, 1) := by decide +kernel
theorem dX5_run_130 : decode cX5_run 130 = .ok (.invokevirtual 75, 3) := by decide +kernel
theorem dX5_run_133 : decode cX5_run 133 = .ok (.goto 7, 3) := by decide +kernel
theorem dX5_run_136 : decode cX5_run 136 = .ok (.aload_n 0, 1) := by decide +kernel
theorem dX5_run_137 : decode cX5_run 137 = .ok (.invokevirtual 79, 3) := by decide +kernel
theorem dX5_run_140 : decode cX5_run 140 = .ok (.istore_n 3, 1) := by decide +kernel
theorem dX5_run_141 : decode cX5_run 141 = .ok (.iinc 4 1, 3) := by decide +kernel
theorem dX5_run_144 : decode cX5_run 144 = .ok (.goto (-139), 3) := by decide +kernel
theorem dX5_run_147 : decode cX5_run 147 = .ok (.aload_n 1, 1) := by decide +kernel
theorem dX5_run_148 : decode cX5_run 148 = .ok (.iload_n 3, 1) := by decide +kernel
theorem dX5_run_149 : decode cX5_run 149 = .ok (.iconst 4, 1) := by decide +kernel
theorem dX5_run_150 : decode cX5_run 150 = .ok (.if_icmp .ne 7, 3) := by decide +kernel
theorem dX5_run_153 : decode cX5_run 153 = .ok (.iconst 3, 1) := by decide +kernel
theorem dX5_run_154 : decode cX5_run 154 = .ok (.goto 4, 3) := by decide +kernel
theorem dX5_run_157 : decode cX5_run 157 = .ok (.iload_n 3, 1) := by decide +kernel
theorem dX5_run_158 : decode cX5_run 158 = .ok (.putfield 82, 3) := by decide +kernel
theorem dX5_run_161 : decode cX5_run 161 = .ok (.aload_n 1, 1) := by decide +kernel
theorem dX5_run_162 : decode cX5_run 162 = .ok (.aload_n 0, 1) := by decide +kernel
theorem dX5_run_163 : decode cX5_run 163 = .ok (.getfield 38, 3) := by decide +kernel
theorem dX5_run_166 : decode cX5_run 166 = .ok (.aload_n 0, 1) := by decide +kernel
theorem dX5_run_167 : decode cX5_run 167 = .ok (.getfield 42, 3) := by decide +kernel
theorem dX5_run_170 : decode cX5_run 170 = .ok (.iadd, 1) := by decide +kernel
theorem dX5_run_171 : decode cX5_run 171 = .ok (.putfield 85, 3) := by decide +kernel
theorem dX5_run_174 : decode cX5_run 174 = .ok (.return_, 1) := by decide +kernel
theorem dX5_isSure_0 : decode cX5_isSure 0 = .ok (.aload_n 0, 1) := by decide +kernel
theorem dX5_isSure_1 : decode cX5_isSure 1 = .ok (.getfield 48, 3) := by decide +kernel
theorem dX5_isSure_4 : decode cX5_isSure 4 = .ok (.ifCond .ne 10, 3) := by decide +kernel
theorem dX5_isSure_7 : decode cX5_isSure 7 = .ok (.aload_n 0, 1) := by decide +kernel
theorem dX5_isSure_8 : decode cX5_isSure 8 = .ok (.getfield 38, 3) := by decide +kernel
theorem dX5_isSure_11 : decode cX5_isSure 11 = .ok (.ifCond .eq 17, 3) := by decide +kernel
theorem dX5_isSure_14 : decode cX5_isSure 14 = .ok (.aload_n 0, 1) := by decide +kernel
theorem dX5_isSure_15 : decode cX5_isSure 15 = .ok (.getfield 52, 3) := by decide +kernel
theorem dX5_isSure_18 : decode cX5_isSure 18 = .ok (.ifCond .ne 12, 3) := by decide +kernel
theorem dX5_isSure_21 : decode cX5_isSure 21 = .ok (.aload_n 0, 1) := by decide +kernel
theorem dX5_isSure_22 : decode cX5_isSure 22 = .ok (.getfield 42, 3) := by decide +kernel
theorem dX5_isSure_25 : decode cX5_isSure 25 = .ok (.ifCond .ne 5, 3) := by decide +kernel
theorem dX5_isSure_28 : decode cX5_isSure 28 = .ok (.iconst 0, 1) := by decide +kernel
theorem dX5_isSure_29 : decode cX5_isSure 29 = .ok (.ireturn, 1) := by decide +kernel
theorem dX5_isSure_30 : decode cX5_isSure 30 = .ok (.aload_n 0, 1) := by decide +kernel
theorem dX5_isSure_31 : decode cX5_isSure 31 = .ok (.getfield 18, 3) := by decide +kernel
theorem dX5_isSure_34 : decode cX5_isSure 34 = .ok (.getfield 63, 3) := by decide +kernel
theorem dX5_isSure_37 : decode cX5_isSure 37 = .ok (.lstore_n 1, 1) := by decide +kernel
theorem dX5_isSure_38 : decode cX5_isSure 38 = .ok (.lload_n 1, 1) := by decide +kernel
theorem dX5_isSure_39 : decode cX5_isSure 39 = .ok (.aload_n 0, 1) := by decide +kernel
theorem dX5_isSure_40 : decode cX5_isSure 40 = .ok (.getfield 18, 3) := by decide +kernel
theorem dX5_isSure_43 : decode cX5_isSure 43 = .ok (.getfield 88, 3) := by decide +kernel
theorem dX5_isSure_46 : decode cX5_isSure 46 = .ok (.ladd, 1) := by decide +kernel
theorem dX5_isSure_47 : decode cX5_isSure 47 = .ok (.lstore_n 3, 1) := by decide +kernel
theorem dX5_isSure_48 : decode cX5_isSure 48 = .ok (.lload_n 1, 1) := by decide +kernel
theorem dX5_isSure_49 : decode cX5_isSure 49 = .ok (.aload_n 0, 1) := by decide +kernel
theorem dX5_isSure_50 : decode cX5_isSure 50 = .ok (.getfield 18, 3) := by decide +kernel
theorem dX5_isSure_53 : decode cX5_isSure 53 = .ok (.getfield 91, 3) := by decide +kernel
theorem dX5_isSure_56 : decode cX5_isSure 56 = .ok (.ladd, 1) := by decide +kernel
theorem dX5_isSure_57 : decode cX5_isSure 57 = .ok (.lstore 5, 2) := by decide +kernel
theorem dX5_isSure_59 : decode cX5_isSure 59 = .ok (.lload_n 3, 1) := by decide +kernel
theorem dX5_isSure_60 : decode cX5_isSure 60 = .ok (.aload_n 0, 1) := by decide +kernel
theorem dX5_isSure_61 : decode cX5_isSure 61 = .ok (.getfield 18, 3) := by decide +kernel
theorem dX5_isSure_64 : decode cX5_isSure 64 = .ok (.getfield 91, 3) := by decide +kernel
theorem dX5_isSure_67 : decode cX5_isSure 67 = .ok (.ladd, 1) := by decide +kernel
theorem dX5_isSure_68 : decode cX5_isSure 68 = .ok (.aload_n 0, 1) := by decide +kernel
theorem dX5_isSure_69 : decode cX5_isSure 69 = .ok (.getfield 18, 3) := by decide +kernel
theorem dX5_isSure_72 : decode cX5_isSure 72 = .ok (.getfield 94, 3) := by decide +kernel
theorem dX5_isSure_75 : decode cX5_isSure 75 = .ok (.ladd, 1) := by decide +kernel
theorem dX5_isSure_76 : decode cX5_isSure 76 = .ok (.lstore 7, 2) := by decide +kernel
theorem dX5_isSure_78 : decode cX5_isSure 78 = .ok (.lload_n 1, 1) := by decide +kernel
theorem dX5_isSure_79 : decode cX5_isSure 79 = .ok (.lconst 0, 1) := by decide +kernel
theorem dX5_isSure_80 : decode cX5_isSure 80 = .ok (.lcmp, 1) := by decide +kernel
theorem dX5_isSure_81 : decode cX5_isSure 81 = .ok (.ifCond .le 27, 3) := by decide +kernel
theorem dX5_isSure_84 : decode cX5_isSure 84 = .ok (.lload_n 3, 1) := by decide +kernel
theorem dX5_isSure_85 : decode cX5_isSure 85 = .ok (.lconst 0, 1) := by decide +kernel
theorem dX5_isSure_86 : decode cX5_isSure 86 = .ok (.lcmp, 1) := by decide +kernel
theorem dX5_isSure_87 : decode cX5_isSure 87 = .ok (.ifCond .le 21, 3) := by decide +kernel
theorem dX5_isSure_90 : decode cX5_isSure 90 = .ok (.lload 5, 2) := by decide +kernel
theorem dX5_isSure_92 : decode cX5_isSure 92 = .ok (.lconst 0, 1) := by decide +kernel
theorem dX5_isSure_93 : decode cX5_isSure 93 = .ok (.lcmp, 1) := by decide +kernel
theorem dX5_isSure_94 : decode cX5_isSure 94 = .ok (.ifCond .le 14, 3) := by decide +kernel
theorem dX5_isSure_97 : decode cX5_isSure 97 = .ok (.lload 7, 2) := by decide +kernel
theorem dX5_isSure_99 : decode cX5_isSure 99 = .ok (.lconst 0, 1) := by decide +kernel
theorem dX5_isSure_100 : decode cX5_isSure 100 = .ok (.lcmp, 1) := by decide +kernel
theorem dX5_isSure_101 : decode cX5_isSure 101 = .ok (.ifCond .le 7, 3) := by decide +kernel
theorem dX5_isSure_104 : decode cX5_isSure 104 = .ok (.iconst 1, 1) := by decide +kernel
theorem dX5_isSure_105 : decode cX5_isSure 105 = .ok (.goto 4, 3) := by decide +kernel
theorem dX5_isSure_108 : decode cX5_isSure 108 = .ok (.iconst 0, 1) := by decide +kernel
theorem dX5_isSure_109 : decode cX5_isSure 109 = .ok (.istore 9, 2) := by decide +kernel
theorem dX5_isSure_111 : decode cX5_isSure 111 = .ok (.lload_n 1, 1) := by decide +kernel
theorem dX5_isSure_112 : decode cX5_isSure 112 = .ok (.lconst 0, 1) := by decide +kernel
theorem dX5_isSure_113 : decode cX5_isSure 113 = .ok (.lcmp, 1) := by decide +kernel
theorem dX5_isSure_114 : decode cX5_isSure 114 = .ok (.ifCond .ge 27, 3) := by decide +kernel
theorem dX5_isSure_117 : decode cX5_isSure 117 = .ok (.lload_n 3, 1) := by decide +kernel
theorem dX5_isSure_118 : decode cX5_isSure 118 = .ok (.lconst 0, 1) := by decide +kernel
theorem dX5_isSure_119 : decode cX5_isSure 119 = .ok (.lcmp, 1) := by decide +kernel
theorem dX5_isSure_120 : decode cX5_isSure 120 = .ok (.ifCond .ge 21, 3) := by decide +kernel
theorem dX5_isSure_123 : decode cX5_isSure 123 = .ok (.lload 5, 2) := by decide +kernel
theorem dX5_isSure_125 : decode cX5_isSure 125 = .ok (.lconst 0, 1) := by decide +kernel
theorem dX5_isSure_126 : decode cX5_isSure 126 = .ok (.lcmp, 1) := by decide +kernel
theorem dX5_isSure_127 : decode cX5_isSure 127 = .ok (.ifCond .ge 14, 3) := by decide +kernel
theorem dX5_isSure_130 : decode cX5_isSure 130 = .ok (.lload 7, 2) := by decide +kernel
theorem dX5_isSure_132 : decode cX5_isSure 132 = .ok (.lconst 0, 1) := by decide +kernel
theorem dX5_isSure_133 : decode cX5_isSure 133 = .ok (.lcmp, 1) := by decide +kernel
theorem dX5_isSure_134 : decode cX5_isSure 134 = .ok (.ifCond .ge 7, 3) := by decide +kernel
theorem dX5_isSure_137 : decode cX5_isSure 137 = .ok (.iconst 1, 1) := by decide +kernel
theorem dX5_isSure_138 : decode cX5_isSure 138 = .ok (.goto 4, 3) := by decide +kernel
theorem dX5_isSure_141 : decode cX5_isSure 141 = .ok (.iconst 0, 1) := by decide +kernel
theorem dX5_isSure_142 : decode cX5_isSure 142 = .ok (.istore 10, 2) := by decide +kernel
theorem dX5_isSure_144 : decode cX5_isSure 144 = .ok (.iload 9, 2) := by decide +kernel
theorem dX5_isSure_146 : decode cX5_isSure 146 = .ok (.ifCond .ne 10, 3) := by decide +kernel
theorem dX5_isSure_149 : decode cX5_isSure 149 = .ok (.iload 10, 2) := by decide +kernel
theorem dX5_isSure_151 : decode cX5_isSure 151 = .ok (.ifCond .ne 5, 3) := by decide +kernel
theorem dX5_isSure_154 : decode cX5_isSure 154 = .ok (.iconst 0, 1) := by decide +kernel
theorem dX5_isSure_155 : decode cX5_isSure 155 = .ok (.ireturn, 1) := by decide +kernel
theorem dX5_isSure_156 : decode cX5_isSure 156 = .ok (.aload_n 0, 1) := by decide +kernel
theorem dX5_isSure_157 : decode cX5_isSure 157 = .ok (.getfield 12, 3) := by decide +kernel
theorem dX5_isSure_160 : decode cX5_isSure 160 = .ok (.getfield 63, 3) := by decide +kernel
theorem dX5_isSure_163 : decode cX5_isSure 163 = .ok (.aload_n 0, 1) := by decide +kernel
theorem dX5_isSure_164 : decode cX5_isSure 164 = .ok (.getfield 12, 3) := by decide +kernel
theorem dX5_isSure_167 : decode cX5_isSure 167 = .ok (.getfield 88, 3) := by decide +kernel
theorem dX5_isSure_170 : decode cX5_isSure 170 = .ok (.ladd, 1) := by decide +kernel
theorem dX5_isSure_171 : decode cX5_isSure 171 = .ok (.lstore 11, 2) := by decide +kernel
theorem dX5_isSure_173 : decode cX5_isSure 173 = .ok (.aload_n 0, 1) := by decide +kernel
theorem dX5_isSure_174 : decode cX5_isSure 174 = .ok (.aload_n 0, 1) := by decide +kernel
theorem dX5_isSure_175 : decode cX5_isSure 175 = .ok (.getfield 12, 3) := by decide +kernel
theorem dX5_isSure_178 : decode cX5_isSure 178 = .ok (.getfield 63, 3) := by decide +kernel
theorem dX5_isSure_181 : decode cX5_isSure 181 = .ok (.lload_n 1, 1) := by decide +kernel
theorem dX5_isSure_182 : decode cX5_isSure 182 = .ok (.invokestatic 97, 3) := by decide +kernel
theorem dX5_isSure_185 : decode cX5_isSure 185 = .ok (.putfield 103, 3) := by decide +kernel
theorem dX5_isSure_188 : decode cX5_isSure 188 = .ok (.aload_n 0, 1) := by decide +kernel
theorem dX5_isSure_189 : decode cX5_isSure 189 = .ok (.getfield 103, 3) := by decide +kernel
theorem dX5_isSure_192 : decode cX5_isSure 192 = .ok (.lload 11, 2) := by decide +kernel
theorem dX5_isSure_194 : decode cX5_isSure 194 = .ok (.lload_n 3, 1) := by decide +kernel
theorem dX5_isSure_195 : decode cX5_isSure 195 = .ok (.invokestatic 97, 3) := by decide +kernel
theorem dX5_isSure_198 : decode cX5_isSure 198 = .ok (.lcmp, 1) := by decide +kernel
theorem dX5_isSure_199 : decode cX5_isSure 199 = .ok (.ifCond .ne 66, 3) := by decide +kernel
theorem dX5_isSure_202 : decode cX5_isSure 202 = .ok (.aload_n 0, 1) := by decide +kernel
theorem dX5_isSure_203 : decode cX5_isSure 203 = .ok (.getfield 103, 3) := by decide +kernel
theorem dX5_isSure_206 : decode cX5_isSure 206 = .ok (.aload_n 0, 1) := by decide +kernel
theorem dX5_isSure_207 : decode cX5_isSure 207 = .ok (.getfield 12, 3) := by decide +kernel
theorem dX5_isSure_210 : decode cX5_isSure 210 = .ok (.getfield 63, 3) := by decide +kernel
theorem dX5_isSure_213 : decode cX5_isSure 213 = .ok (.aload_n 0, 1) := by decide +kernel
theorem dX5_isSure_214 : decode cX5_isSure 214 = .ok (.getfield 12, 3) := by decide +kernel
theorem dX5_isSure_217 : decode cX5_isSure 217 = .ok (.getfield 91, 3) := by decide +kernel
theorem dX5_isSure_220 : decode cX5_isSure 220 = .ok (.ladd, 1) := by decide +kernel
theorem dX5_isSure_221 : decode cX5_isSure 221 = .ok (.lload 5, 2) := by decide +kernel
theorem dX5_isSure_223 : decode cX5_isSure 223 = .ok (.invokestatic 97, 3) := by decide +kernel
theorem dX5_isSure_226 : decode cX5_isSure 226 = .ok (.lcmp, 1) := by decide +kernel
theorem dX5_isSure_227 : decode cX5_isSure 227 = .ok (.ifCond .ne 38, 3) := by decide +kernel
theorem dX5_isSure_230 : decode cX5_isSure 230 = .ok (.aload_n 0, 1) := by decide +kernel
theorem dX5_isSure_231 : decode cX5_isSure 231 = .ok (.getfield 103, 3) := by decide +kernel
theorem dX5_isSure_234 : decode cX5_isSure 234 = .ok (.lload 11, 2) := by decide +kernel
theorem dX5_isSure_236 : decode cX5_isSure 236 = .ok (.aload_n 0, 1) := by decide +kernel
theorem dX5_isSure_237 : decode cX5_isSure 237 = .ok (.getfield 12, 3) := by decide +kernel
theorem dX5_isSure_240 : decode cX5_isSure 240 = .ok (.getfield 91, 3) := by decide +kernel
theorem dX5_isSure_243 : decode cX5_isSure 243 = .ok (.ladd, 1) := by decide +kernel
theorem dX5_isSure_244 : decode cX5_isSure 244 = .ok (.aload_n 0, 1) := by decide +kernel
theorem dX5_isSure_245 : decode cX5_isSure 245 = .ok (.getfield 12, 3) := by decide +kernel
theorem dX5_isSure_248 : decode cX5_isSure 248 = .ok (.getfield 94, 3) := by decide +kernel
theorem dX5_isSure_251 : decode cX5_isSure 251 = .ok (.ladd, 1) := by decide +kernel
theorem dX5_isSure_252 : decode cX5_isSure 252 = .ok (.lload 7, 2) := by decide +kernel
theorem dX5_isSure_254 : decode cX5_isSure 254 = .ok (.invokestatic 97, 3) := by decide +kernel
theorem dX5_isSure_257 : decode cX5_isSure 257 = .ok (.lcmp, 1) := by decide +kernel
theorem dX5_isSure_258 : decode cX5_isSure 258 = .ok (.ifCond .ne 7, 3) := by decide +kernel
theorem dX5_isSure_261 : decode cX5_isSure 261 = .ok (.iconst 1, 1) := by decide +kernel
theorem dX5_isSure_262 : decode cX5_isSure 262 = .ok (.goto 4, 3) := by decide +kernel
theorem dX5_isSure_265 : decode cX5_isSure 265 = .ok (.iconst 0, 1) := by decide +kernel
theorem dX5_isSure_266 : decode cX5_isSure 266 = .ok (.ireturn, 1) := by decide +kernel
theorem dX5_letOut_0 : decode cX5_letOut 0 = .ok (.aload_n 0, 1) := by decide +kernel
theorem dX5_letOut_1 : decode cX5_letOut 1 = .ok (.getfield 103, 3) := by decide +kernel
theorem dX5_letOut_4 : decode cX5_letOut 4 = .ok (.ldc2_w 106, 3) := by decide +kernel
theorem dX5_letOut_7 : decode cX5_letOut 7 = .ok (.lcmp, 1) := by decide +kernel
theorem dX5_letOut_8 : decode cX5_letOut 8 = .ok (.ifCond .gt 14, 3) := by decide +kernel
theorem dX5_letOut_11 : decode cX5_letOut 11 = .ok (.aload_n 0, 1) := by decide +kernel
theorem dX5_letOut_12 : decode cX5_letOut 12 = .ok (.getfield 103, 3) := by decide +kernel
theorem dX5_letOut_15 : decode cX5_letOut 15 = .ok (.ldc2_w 108, 3) := by decide +kernel
theorem dX5_letOut_18 : decode cX5_letOut 18 = .ok (.lcmp, 1) := by decide +kernel
theorem dX5_letOut_19 : decode cX5_letOut 19 = .ok (.ifCond .ge 5, 3) := by decide +kernel
theorem dX5_letOut_22 : decode cX5_letOut 22 = .ok (.iconst 2, 1) := by decide +kernel
theorem dX5_letOut_23 : decode cX5_letOut 23 = .ok (.ireturn, 1) := by decide +kernel
theorem dX5_letOut_24 : decode cX5_letOut 24 = .ok (.aload_n 0, 1) := by decide +kernel
theorem dX5_letOut_25 : decode cX5_letOut 25 = .ok (.getfield 12, 3) := by decide +kernel
theorem dX5_letOut_28 : decode cX5_letOut 28 = .ok (.aload_n 0, 1) := by decide +kernel
theorem dX5_letOut_29 : decode cX5_letOut 29 = .ok (.getfield 103, 3) := by decide +kernel
theorem dX5_letOut_32 : decode cX5_letOut 32 = .ok (.aload_n 0, 1) := by decide +kernel
theorem dX5_letOut_33 : decode cX5_letOut 33 = .ok (.getfield 18, 3) := by decide +kernel
theorem dX5_letOut_36 : decode cX5_letOut 36 = .ok (.invokevirtual 110, 3) := by decide +kernel
theorem dX5_letOut_39 : decode cX5_letOut 39 = .ok (.aload_n 0, 1) := by decide +kernel
theorem dX5_letOut_40 : decode cX5_letOut 40 = .ok (.getfield 12, 3) := by decide +kernel
theorem dX5_letOut_43 : decode cX5_letOut 43 = .ok (.invokevirtual 114, 3) := by decide +kernel
theorem dX5_letOut_46 : decode cX5_letOut 46 = .ok (.ifCond .eq 5, 3) := by decide +kernel
theorem dX5_letOut_49 : decode cX5_letOut 49 = .ok (.iconst 2, 1) := by decide +kernel
theorem dX5_letOut_50 : decode cX5_letOut 50 = .ok (.ireturn, 1) := by decide +kernel
theorem dX5_letOut_51 : decode cX5_letOut 51 = .ok (.aload_n 0, 1) := by decide +kernel
theorem dX5_letOut_52 : decode cX5_letOut 52 = .ok (.getfield 12, 3) := by decide +kernel
theorem dX5_letOut_55 : decode cX5_letOut 55 = .ok (.astore_n 2, 1) := by decide +kernel
theorem dX5_letOut_56 : decode cX5_letOut 56 = .ok (.aload_n 0, 1) := by decide +kernel
theorem dX5_letOut_57 : decode cX5_letOut 57 = .ok (.aload_n 0, 1) := by decide +kernel
theorem dX5_letOut_58 : decode cX5_letOut 58 = .ok (.getfield 18, 3) := by decide +kernel
theorem dX5_letOut_61 : decode cX5_letOut 61 = .ok (.putfield 12, 3) := by decide +kernel
theorem dX5_letOut_64 : decode cX5_letOut 64 = .ok (.aload_n 0, 1) := by decide +kernel
theorem dX5_letOut_65 : decode cX5_letOut 65 = .ok (.aload_n 2, 1) := by decide +kernel
theorem dX5_letOut_66 : decode cX5_letOut 66 = .ok (.putfield 18, 3) := by decide +kernel
theorem dX5_letOut_69 : decode cX5_letOut 69 = .ok (.aload_n 1, 1) := by decide +kernel
theorem dX5_letOut_70 : decode cX5_letOut 70 = .ok (.aload_n 0, 1) := by decide +kernel
theorem dX5_letOut_71 : decode cX5_letOut 71 = .ok (.getfield 103, 3) := by decide +kernel
theorem dX5_letOut_74 : decode cX5_letOut 74 = .ok (.l2i, 1) := by decide +kernel
theorem dX5_letOut_75 : decode cX5_letOut 75 = .ok (.aload_n 0, 1) := by decide +kernel
theorem dX5_letOut_76 : decode cX5_letOut 76 = .ok (.getfield 38, 3) := by decide +kernel
theorem dX5_letOut_79 : decode cX5_letOut 79 = .ok (.aload_n 0, 1) := by decide +kernel
theorem dX5_letOut_80 : decode cX5_letOut 80 = .ok (.getfield 42, 3) := by decide +kernel
theorem dX5_letOut_83 : decode cX5_letOut 83 = .ok (.invokevirtual 117, 3) := by decide +kernel
theorem dX5_letOut_86 : decode cX5_letOut 86 = .ok (.aload_n 0, 1) := by decide +kernel
theorem dX5_letOut_87 : decode cX5_letOut 87 = .ok (.iconst 0, 1) := by decide +kernel
theorem dX5_letOut_88 : decode cX5_letOut 88 = .ok (.putfield 45, 3) := by decide +kernel
theorem dX5_letOut_91 : decode cX5_letOut 91 = .ok (.iconst 4, 1) := by decide +kernel
theorem dX5_letOut_92 : decode cX5_letOut 92 = .ok (.ireturn, 1) := by decide +kernel
theorem dX5_readFirst_0 : decode cX5_readFirst 0 = .ok (.aload_n 0, 1) := by decide +kernel
theorem dX5_readFirst_1 : decode cX5_readFirst 1 = .ok (.getfield 31, 3) := by decide +kernel
theorem dX5_readFirst_4 : decode cX5_readFirst 4 = .ok (.ifnull 17, 3) := by decide +kernel
theorem dX5_readFirst_7 : decode cX5_readFirst 7 = .ok (.aload_n 0, 1) := by decide +kernel
theorem dX5_readFirst_8 : decode cX5_readFirst 8 = .ok (.getfield 31, 3) := by decide +kernel
theorem dX5_readFirst_11 : decode cX5_readFirst 11 = .ok (.aload_n 0, 1) := by decide +kernel
theorem dX5_readFirst_12 : decode cX5_readFirst 12 = .ok (.getfield 38, 3) := by decide +kernel
theorem dX5_readFirst_15 : decode cX5_readFirst 15 = .ok (.invokevirtual 121, 3) := by decide +kernel
theorem dX5_readFirst_18 : decode cX5_readFirst 18 = .ok (.ifCond .eq 5, 3) := by decide +kernel
theorem dX5_readFirst_21 : decode cX5_readFirst 21 = .ok (.iconst 3, 1) := by decide +kernel
theorem dX5_readFirst_22 : decode cX5_readFirst 22 = .ok (.ireturn, 1) := by decide +kernel
theorem dX5_readFirst_23 : decode cX5_readFirst 23 = .ok (.aload_n 0, 1) := by decide +kernel
theorem dX5_readFirst_24 : decode cX5_readFirst 24 = .ok (.getfield 31, 3) := by decide +kernel
theorem dX5_readFirst_27 : decode cX5_readFirst 27 = .ok (.aload_n 0, 1) := by decide +kernel
theorem dX5_readFirst_28 : decode cX5_readFirst 28 = .ok (.getfield 38, 3) := by decide +kernel
theorem dX5_readFirst_31 : decode cX5_readFirst 31 = .ok (.invokevirtual 125, 3) := by decide +kernel
theorem dX5_readFirst_34 : decode cX5_readFirst 34 = .ok (.ifCond .ne 24, 3) := by decide +kernel
theorem dX5_readFirst_37 : decode cX5_readFirst 37 = .ok (.aload_n 0, 1) := by decide +kernel
theorem dX5_readFirst_38 : decode cX5_readFirst 38 = .ok (.getfield 12, 3) := by decide +kernel
theorem dX5_readFirst_41 : decode cX5_readFirst 41 = .ok (.invokevirtual 128, 3) := by decide +kernel
theorem dX5_readFirst_44 : decode cX5_readFirst 44 = .ok (.aload_n 0, 1) := by decide +kernel
theorem dX5_readFirst_45 : decode cX5_readFirst 45 = .ok (.getfield 18, 3) := by decide +kernel
theorem dX5_readFirst_48 : decode cX5_readFirst 48 = .ok (.invokevirtual 128, 3) := by decide +kernel
theorem dX5_readFirst_51 : decode cX5_readFirst 51 = .ok (.aload_n 0, 1) := by decide +kernel
theorem dX5_readFirst_52 : decode cX5_readFirst 52 = .ok (.iconst 1, 1) := by decide +kernel
theorem dX5_readFirst_53 : decode cX5_readFirst 53 = .ok (.putfield 48, 3) := by decide +kernel
theorem dX5_readFirst_56 : decode cX5_readFirst 56 = .ok (.iconst 4, 1) := by decide +kernel
theorem dX5_readFirst_57 : decode cX5_readFirst 57 = .ok (.ireturn, 1) := by decide +kernel
theorem dX5_readFirst_58 : decode cX5_readFirst 58 = .ok (.aload_n 0, 1) := by decide +kernel
theorem dX5_readFirst_59 : decode cX5_readFirst 59 = .ok (.getfield 31, 3) := by decide +kernel
theorem dX5_readFirst_62 : decode cX5_readFirst 62 = .ok (.aload_n 0, 1) := by decide +kernel
theorem dX5_readFirst_63 : decode cX5_readFirst 63 = .ok (.getfield 38, 3) := by decide +kernel
theorem dX5_readFirst_66 : decode cX5_readFirst 66 = .ok (.invokevirtual 131, 3) := by decide +kernel
theorem dX5_readFirst_69 : decode cX5_readFirst 69 = .ok (.istore_n 1, 1) := by decide +kernel
theorem dX5_readFirst_70 : decode cX5_readFirst 70 = .ok (.aload_n 0, 1) := by decide +kernel
theorem dX5_readFirst_71 : decode cX5_readFirst 71 = .ok (.getfield 12, 3) := by decide +kernel
theorem dX5_readFirst_74 : decode cX5_readFirst 74 = .ok (.iload_n 1, 1) := by decide +kernel
theorem dX5_readFirst_75 : decode cX5_readFirst 75 = .ok (.invokevirtual 135, 3) := by decide +kernel
theorem dX5_readFirst_78 : decode cX5_readFirst 78 = .ok (.aload_n 0, 1) := by decide +kernel
theorem dX5_readFirst_79 : decode cX5_readFirst 79 = .ok (.getfield 18, 3) := by decide +kernel
theorem dX5_readFirst_82 : decode cX5_readFirst 82 = .ok (.iload_n 1, 1) := by decide +kernel
theorem dX5_readFirst_83 : decode cX5_readFirst 83 = .ok (.invokevirtual 135, 3) := by decide +kernel
theorem dX5_readFirst_86 : decode cX5_readFirst 86 = .ok (.aload_n 0, 1) := by decide +kernel
theorem dX5_readFirst_87 : decode cX5_readFirst 87 = .ok (.dup, 1) := by decide +kernel
theorem dX5_readFirst_88 : decode cX5_readFirst 88 = .ok (.getfield 38, 3) := by decide +kernel
theorem dX5_readFirst_91 : decode cX5_readFirst 91 = .ok (.iconst 1, 1) := by decide +kernel
theorem dX5_readFirst_92 : decode cX5_readFirst 92 = .ok (.iadd, 1) := by decide +kernel
theorem dX5_readFirst_93 : decode cX5_readFirst 93 = .ok (.putfield 38, 3) := by decide +kernel
theorem dX5_readFirst_96 : decode cX5_readFirst 96 = .ok (.aload_n 0, 1) := by decide +kernel
theorem dX5_readFirst_97 : decode cX5_readFirst 97 = .ok (.dup, 1) := by decide +kernel
theorem dX5_readFirst_98 : decode cX5_readFirst 98 = .ok (.getfield 45, 3) := by decide +kernel
theorem dX5_readFirst_101 : decode cX5_readFirst 101 = .ok (.iconst 1, 1) := by decide +kernel
theorem dX5_readFirst_102 : decode cX5_readFirst 102 = .ok (.iadd, 1) := by decide +kernel
theorem dX5_readFirst_103 : decode cX5_readFirst 103 = .ok (.putfield 45, 3) := by decide +kernel
theorem dX5_readFirst_106 : decode cX5_readFirst 106 = .ok (.aload_n 0, 1) := by decide +kernel
theorem dX5_readFirst_107 : decode cX5_readFirst 107 = .ok (.getfield 12, 3) := by decide +kernel
theorem dX5_readFirst_110 : decode cX5_readFirst 110 = .ok (.invokevirtual 114, 3) := by decide +kernel
theorem dX5_readFirst_113 : decode cX5_readFirst 113 = .ok (.ifCond .ne 13, 3) := by decide +kernel
theorem dX5_readFirst_116 : decode cX5_readFirst 116 = .ok (.aload_n 0, 1) := by decide +kernel
theorem dX5_readFirst_117 : decode cX5_readFirst 117 = .ok (.getfield 18, 3) := by decide +kernel
theorem dX5_readFirst_120 : decode cX5_readFirst 120 = .ok (.invokevirtual 114, 3) := by decide +kernel
theorem dX5_readFirst_123 : decode cX5_readFirst 123 = .ok (.ifCond .eq 7, 3) := by decide +kernel
theorem dX5_readFirst_126 : decode cX5_readFirst 126 = .ok (.iconst 2, 1) := by decide +kernel
theorem dX5_readFirst_127 : decode cX5_readFirst 127 = .ok (.goto 4, 3) := by decide +kernel
theorem dX5_readFirst_130 : decode cX5_readFirst 130 = .ok (.iconst 4, 1) := by decide +kernel
theorem dX5_readFirst_131 : decode cX5_readFirst 131 = .ok (.ireturn, 1) := by decide +kernel
theorem dX5_readSecond_0 : decode cX5_readSecond 0 = .ok (.aload_n 0, 1) := by decide +kernel
theorem dX5_readSecond_1 : decode cX5_readSecond 1 = .ok (.getfield 35, 3) := by decide +kernel
theorem dX5_readSecond_4 : decode cX5_readSecond 4 = .ok (.ifnull 17, 3) := by decide +kernel
theorem dX5_readSecond_7 : decode cX5_readSecond 7 = .ok (.aload_n 0, 1) := by decide +kernel
theorem dX5_readSecond_8 : decode cX5_readSecond 8 = .ok (.getfield 35, 3) := by decide +kernel
theorem dX5_readSecond_11 : decode cX5_readSecond 11 = .ok (.aload_n 0, 1) := by decide +kernel
theorem dX5_readSecond_12 : decode cX5_readSecond 12 = .ok (.getfield 42, 3) := by decide +kernel
theorem dX5_readSecond_15 : decode cX5_readSecond 15 = .ok (.invokevirtual 121, 3) := by decide +kernel
theorem dX5_readSecond_18 : decode cX5_readSecond 18 = .ok (.ifCond .eq 5, 3) := by decide +kernel
theorem dX5_readSecond_21 : decode cX5_readSecond 21 = .ok (.iconst 3, 1) := by decide +kernel
theorem dX5_readSecond_22 : decode cX5_readSecond 22 = .ok (.ireturn, 1) := by decide +kernel
theorem dX5_readSecond_23 : decode cX5_readSecond 23 = .ok (.aload_n 0, 1) := by decide +kernel
theorem dX5_readSecond_24 : decode cX5_readSecond 24 = .ok (.getfield 35, 3) := by decide +kernel
theorem dX5_readSecond_27 : decode cX5_readSecond 27 = .ok (.aload_n 0, 1) := by decide +kernel
theorem dX5_readSecond_28 : decode cX5_readSecond 28 = .ok (.getfield 42, 3) := by decide +kernel
theorem dX5_readSecond_31 : decode cX5_readSecond 31 = .ok (.invokevirtual 125, 3) := by decide +kernel
theorem dX5_readSecond_34 : decode cX5_readSecond 34 = .ok (.ifCond .ne 24, 3) := by decide +kernel
theorem dX5_readSecond_37 : decode cX5_readSecond 37 = .ok (.aload_n 0, 1) := by decide +kernel
theorem dX5_readSecond_38 : decode cX5_readSecond 38 = .ok (.getfield 12, 3) := by decide +kernel
theorem dX5_readSecond_41 : decode cX5_readSecond 41 = .ok (.invokevirtual 138, 3) := by decide +kernel
theorem dX5_readSecond_44 : decode cX5_readSecond 44 = .ok (.aload_n 0, 1) := by decide +kernel
theorem dX5_readSecond_45 : decode cX5_readSecond 45 = .ok (.getfield 18, 3) := by decide +kernel
theorem dX5_readSecond_48 : decode cX5_readSecond 48 = .ok (.invokevirtual 138, 3) := by decide +kernel
theorem dX5_readSecond_51 : decode cX5_readSecond 51 = .ok (.aload_n 0, 1) := by decide +kernel
theorem dX5_readSecond_52 : decode cX5_readSecond 52 = .ok (.iconst 1, 1) := by decide +kernel
theorem dX5_readSecond_53 : decode cX5_readSecond 53 = .ok (.putfield 52, 3) := by decide +kernel
theorem dX5_readSecond_56 : decode cX5_readSecond 56 = .ok (.iconst 4, 1) := by decide +kernel
theorem dX5_readSecond_57 : decode cX5_readSecond 57 = .ok (.ireturn, 1) := by decide +kernel
theorem dX5_readSecond_58 : decode cX5_readSecond 58 = .ok (.aload_n 0, 1) := by decide +kernel
theorem dX5_readSecond_59 : decode cX5_readSecond 59 = .ok (.getfield 35, 3) := by decide +kernel
theorem dX5_readSecond_62 : decode cX5_readSecond 62 = .ok (.aload_n 0, 1) := by decide +kernel
theorem dX5_readSecond_63 : decode cX5_readSecond 63 = .ok (.getfield 42, 3) := by decide +kernel
theorem dX5_readSecond_66 : decode cX5_readSecond 66 = .ok (.invokevirtual 131, 3) := by decide +kernel
theorem dX5_readSecond_69 : decode cX5_readSecond 69 = .ok (.istore_n 1, 1) := by decide +kernel
theorem dX5_readSecond_70 : decode cX5_readSecond 70 = .ok (.aload_n 0, 1) := by decide +kernel
theorem dX5_readSecond_71 : decode cX5_readSecond 71 = .ok (.getfield 12, 3) := by decide +kernel
theorem dX5_readSecond_74 : decode cX5_readSecond 74 = .ok (.iload_n 1, 1) := by decide +kernel
theorem dX5_readSecond_75 : decode cX5_readSecond 75 = .ok (.invokevirtual 141, 3) := by decide +kernel
theorem dX5_readSecond_78 : decode cX5_readSecond 78 = .ok (.aload_n 0, 1) := by decide +kernel
theorem dX5_readSecond_79 : decode cX5_readSecond 79 = .ok (.getfield 18, 3) := by decide +kernel
theorem dX5_readSecond_82 : decode cX5_readSecond 82 = .ok (.iload_n 1, 1) := by decide +kernel
theorem dX5_readSecond_83 : decode cX5_readSecond 83 = .ok (.invokevirtual 141, 3) := by decide +kernel
theorem dX5_readSecond_86 : decode cX5_readSecond 86 = .ok (.aload_n 0, 1) := by decide +kernel
theorem dX5_readSecond_87 : decode cX5_readSecond 87 = .ok (.dup, 1) := by decide +kernel
theorem dX5_readSecond_88 : decode cX5_readSecond 88 = .ok (.getfield 42, 3) := by decide +kernel
theorem dX5_readSecond_91 : decode cX5_readSecond 91 = .ok (.iconst 1, 1) := by decide +kernel
theorem dX5_readSecond_92 : decode cX5_readSecond 92 = .ok (.iadd, 1) := by decide +kernel
theorem dX5_readSecond_93 : decode cX5_readSecond 93 = .ok (.putfield 42, 3) := by decide +kernel
theorem dX5_readSecond_96 : decode cX5_readSecond 96 = .ok (.aload_n 0, 1) := by decide +kernel
theorem dX5_readSecond_97 : decode cX5_readSecond 97 = .ok (.dup, 1) := by decide +kernel
theorem dX5_readSecond_98 : decode cX5_readSecond 98 = .ok (.getfield 45, 3) := by decide +kernel
theorem dX5_readSecond_101 : decode cX5_readSecond 101 = .ok (.iconst 1, 1) := by decide +kernel
theorem dX5_readSecond_102 : decode cX5_readSecond 102 = .ok (.iadd, 1) := by decide +kernel
theorem dX5_readSecond_103 : decode cX5_readSecond 103 = .ok (.putfield 45, 3) := by decide +kernel
theorem dX5_readSecond_106 : decode cX5_readSecond 106 = .ok (.aload_n 0, 1) := by decide +kernel
theorem dX5_readSecond_107 : decode cX5_readSecond 107 = .ok (.getfield 12, 3) := by decide +kernel
theorem dX5_readSecond_110 : decode cX5_readSecond 110 = .ok (.invokevirtual 114, 3) := by decide +kernel
theorem dX5_readSecond_113 : decode cX5_readSecond 113 = .ok (.ifCond .ne 13, 3) := by decide +kernel
theorem dX5_readSecond_116 : decode cX5_readSecond 116 = .ok (.aload_n 0, 1) := by decide +kernel
theorem dX5_readSecond_117 : decode cX5_readSecond 117 = .ok (.getfield 18, 3) := by decide +kernel
theorem dX5_readSecond_120 : decode cX5_readSecond 120 = .ok (.invokevirtual 114, 3) := by decide +kernel
theorem dX5_readSecond_123 : decode cX5_readSecond 123 = .ok (.ifCond .eq 7, 3) := by decide +kernel
theorem dX5_readSecond_126 : decode cX5_readSecond 126 = .ok (.iconst 2, 1) := by decide +kernel
theorem dX5_readSecond_127 : decode cX5_readSecond 127 = .ok (.goto 4, 3) := by decide +kernel
theorem dX5_readSecond_130 : decode cX5_readSecond 130 = .ok (.iconst 4, 1) := by decide +kernel
theorem dX5_readSecond_131 : decode cX5_readSecond 131 = .ok (.ireturn, 1) := by decide +kernel
theorem dX6_init_0 : decode cX6_init 0 = .ok (.aload_n 0, 1) := by decide +kernel
theorem dX6_init_1 : decode cX6_init 1 = .ok (.invokespecial 3, 3) := by decide +kernel
theorem dX6_init_4 : decode cX6_init 4 = .ok (.aload_n 0, 1) := by decide +kernel
theorem dX6_init_5 : decode cX6_init 5 = .ok (.bipush 60, 2) := by decide +kernel
theorem dX6_init_7 : decode cX6_init 7 = .ok (.newarray .int, 2) := by decide +kernel
theorem dX6_init_9 : decode cX6_init 9 = .ok (.putfield 9, 3) := by decide +kernel
theorem dX6_init_12 : decode cX6_init 12 = .ok (.aload_n 0, 1) := by decide +kernel
theorem dX6_init_13 : decode cX6_init 13 = .ok (.bipush 60, 2) := by decide +kernel
theorem dX6_init_15 : decode cX6_init 15 = .ok (.newarray .int, 2) := by decide +kernel
theorem dX6_init_17 : decode cX6_init 17 = .ok (.putfield 15, 3) := by decide +kernel
theorem dX6_init_20 : decode cX6_init 20 = .ok (.aload_n 0, 1) := by decide +kernel
theorem dX6_init_21 : decode cX6_init 21 = .ok (.bipush 60, 2) := by decide +kernel
theorem dX6_init_23 : decode cX6_init 23 = .ok (.newarray .int, 2) := by decide +kernel
theorem dX6_init_25 : decode cX6_init 25 = .ok (.putfield 18, 3) := by decide +kernel
theorem dX6_init_28 : decode cX6_init 28 = .ok (.aload_n 0, 1) := by decide +kernel
theorem dX6_init_29 : decode cX6_init 29 = .ok (.new 21, 3) := by decide +kernel
theorem dX6_init_32 : decode cX6_init 32 = .ok (.dup, 1) := by decide +kernel
theorem dX6_init_33 : decode cX6_init 33 = .ok (.invokespecial 23, 3) := by decide +kernel
theorem dX6_init_36 : decode cX6_init 36 = .ok (.putfield 24, 3) := by decide +kernel
theorem dX6_init_39 : decode cX6_init 39 = .ok (.aload_n 0, 1) := by decide +kernel
theorem dX6_init_40 : decode cX6_init 40 = .ok (.iconst 1, 1) := by decide +kernel
theorem dX6_init_41 : decode cX6_init 41 = .ok (.putfield 28, 3) := by decide +kernel
theorem dX6_init_44 : decode cX6_init 44 = .ok (.aload_n 0, 1) := by decide +kernel
theorem dX6_init_45 : decode cX6_init 45 = .ok (.iload_n 1, 1) := by decide +kernel
theorem dX6_init_46 : decode cX6_init 46 = .ok (.putfield 32, 3) := by decide +kernel
theorem dX6_init_49 : decode cX6_init 49 = .ok (.return_, 1) := by decide +kernel
theorem dX6_clear_0 : decode cX6_clear 0 = .ok (.aload_n 0, 1) := by decide +kernel
theorem dX6_clear_1 : decode cX6_clear 1 = .ok (.iconst 0, 1) := by decide +kernel
theorem dX6_clear_2 : decode cX6_clear 2 = .ok (.putfield 36, 3) := by decide +kernel
theorem dX6_clear_5 : decode cX6_clear 5 = .ok (.aload_n 0, 1) := by decide +kernel
theorem dX6_clear_6 : decode cX6_clear 6 = .ok (.iconst 0, 1) := by decide +kernel
theorem dX6_clear_7 : decode cX6_clear 7 = .ok (.putfield 39, 3) := by decide +kernel
theorem dX6_clear_10 : decode cX6_clear 10 = .ok (.aload_n 0, 1) := by decide +kernel
theorem dX6_clear_11 : decode cX6_clear 11 = .ok (.iconst 0, 1) := by decide +kernel
theorem dX6_clear_12 : decode cX6_clear 12 = .ok (.putfield 42, 3) := by decide +kernel
theorem dX6_clear_15 : decode cX6_clear 15 = .ok (.return_, 1) := by decide +kernel
theorem dX6_add_0 : decode cX6_add 0 = .ok (.aload_n 0, 1) := by decide +kernel
theorem dX6_add_1 : decode cX6_add 1 = .ok (.getfield 36, 3) := by decide +kernel
theorem dX6_add_4 : decode cX6_add 4 = .ok (.ifCond .lt 52, 3) := by decide +kernel
theorem dX6_add_7 : decode cX6_add 7 = .ok (.aload_n 0, 1) := by decide +kernel
theorem dX6_add_8 : decode cX6_add 8 = .ok (.getfield 36, 3) := by decide +kernel
theorem dX6_add_11 : decode cX6_add 11 = .ok (.bipush 60, 2) := by decide +kernel
theorem dX6_add_13 : decode cX6_add 13 = .ok (.if_icmp .ge 43, 3) := by decide +kernel
theorem dX6_add_16 : decode cX6_add 16 = .ok (.aload_n 0, 1) := by decide +kernel
theorem dX6_add_17 : decode cX6_add 17 = .ok (.getfield 9, 3) := by decide +kernel
theorem dX6_add_20 : decode cX6_add 20 = .ok (.aload_n 0, 1) := by decide +kernel
theorem dX6_add_21 : decode cX6_add 21 = .ok (.getfield 36, 3) := by decide +kernel
theorem dX6_add_24 : decode cX6_add 24 = .ok (.iload_n 1, 1) := by decide +kernel
theorem dX6_add_25 : decode cX6_add 25 = .ok (.iastore, 1) := by decide +kernel
theorem dX6_add_26 : decode cX6_add 26 = .ok (.aload_n 0, 1) := by decide +kernel
theorem dX6_add_27 : decode cX6_add 27 = .ok (.getfield 15, 3) := by decide +kernel
theorem dX6_add_30 : decode cX6_add 30 = .ok (.aload_n 0, 1) := by decide +kernel
theorem dX6_add_31 : decode cX6_add 31 = .ok (.getfield 36, 3) := by decide +kernel
theorem dX6_add_34 : decode cX6_add 34 = .ok (.iload_n 2, 1) := by decide +kernel
theorem dX6_add_35 : decode cX6_add 35 = .ok (.iastore, 1) := by decide +kernel
theorem dX6_add_36 : decode cX6_add 36 = .ok (.aload_n 0, 1) := by decide +kernel
theorem dX6_add_37 : decode cX6_add 37 = .ok (.getfield 18, 3) := by decide +kernel
theorem dX6_add_40 : decode cX6_add 40 = .ok (.aload_n 0, 1) := by decide +kernel
theorem dX6_add_41 : decode cX6_add 41 = .ok (.getfield 36, 3) := by decide +kernel
theorem dX6_add_44 : decode cX6_add 44 = .ok (.iload_n 3, 1) := by decide +kernel
theorem dX6_add_45 : decode cX6_add 45 = .ok (.iastore, 1) := by decide +kernel
theorem dX6_add_46 : decode cX6_add 46 = .ok (.aload_n 0, 1) := by decide +kernel
theorem dX6_add_47 : decode cX6_add 47 = .ok (.dup, 1) := by decide +kernel
theorem dX6_add_48 : decode cX6_add 48 = .ok (.getfield 36, 3) := by decide +kernel
theorem dX6_add_51 : decode cX6_add 51 = .ok (.iconst 1, 1) := by decide +kernel
theorem dX6_add_52 : decode cX6_add 52 = .ok (.iadd, 1) := by decide +kernel
theorem dX6_add_53 : decode cX6_add 53 = .ok (.putfield 36, 3) := by decide +kernel
theorem dX6_add_56 : decode cX6_add 56 = .ok (.return_, 1) := by decide +kernel
theorem dX6_knows_0 : decode cX6_knows 0 = .ok (.iload_n 1, 1) := by decide +kernel
theorem dX6_knows_1 : decode cX6_knows 1 = .ok (.ifCond .lt 15, 3) := by decide +kernel
theorem dX6_knows_4 : decode cX6_knows 4 = .ok (.iload_n 1, 1) := by decide +kernel
theorem dX6_knows_5 : decode cX6_knows 5 = .ok (.aload_n 0, 1) := by decide +kernel
theorem dX6_knows_6 : decode cX6_knows 6 = .ok (.getfield 36, 3) := by decide +kernel
theorem dX6_knows_9 : decode cX6_knows 9 = .ok (.if_icmp .ge 7, 3) := by decide +kernel
theorem dX6_knows_12 : decode cX6_knows 12 = .ok (.iconst 1, 1) := by decide +kernel
theorem dX6_knows_13 : decode cX6_knows 13 = .ok (.goto 4, 3) := by decide +kernel
theorem dX6_knows_16 : decode cX6_knows 16 = .ok (.iconst 0, 1) := by decide +kernel
theorem dX6_knows_17 : decode cX6_knows 17 = .ok (.ireturn, 1) := by decide +kernel
theorem dX6_unknownAt_0 : decode cX6_unknownAt 0 = .ok (.aload_n 0, 1) := by decide +kernel
theorem dX6_unknownAt_1 : decode cX6_unknownAt 1 = .ok (.iload_n 1, 1) := by decide +kernel
theorem dX6_unknownAt_2 : decode cX6_unknownAt 2 = .ok (.invokevirtual 45, 3) := by decide +kernel
theorem dX6_unknownAt_5 : decode cX6_unknownAt 5 = .ok (.ifCond .ne 15, 3) := by decide +kernel
theorem dX6_unknownAt_8 : decode cX6_unknownAt 8 = .ok (.aload_n 0, 1) := by decide +kernel
theorem dX6_unknownAt_9 : decode cX6_unknownAt 9 = .ok (.getfield 39, 3) := by decide +kernel
theorem dX6_unknownAt_12 : decode cX6_unknownAt 12 = .ok (.iconst 1, 1) := by decide +kernel
theorem dX6_unknownAt_13 : decode cX6_unknownAt 13 = .ok (.if_icmp .eq 7, 3) := by decide +kernel
theorem dX6_unknownAt_16 : decode cX6_unknownAt 16 = .ok (.iconst 1, 1) := by decide +kernel
theorem dX6_unknownAt_17 : decode cX6_unknownAt 17 = .ok (.goto 4, 3) := by decide +kernel
theorem dX6_unknownAt_20 : decode cX6_unknownAt 20 = .ok (.iconst 0, 1) := by decide +kernel
theorem dX6_unknownAt_21 : decode cX6_unknownAt 21 = .ok (.ireturn, 1) := by decide +kernel
theorem dX6_termAt_0 : decode cX6_termAt 0 = .ok (.iload_n 1, 1) := by decide +kernel
theorem dX6_termAt_1 : decode cX6_termAt 1 = .ok (.ifCond .lt 21, 3) := by decide +kernel
theorem dX6_termAt_4 : decode cX6_termAt 4 = .ok (.iload_n 1, 1) := by decide +kernel
theorem dX6_termAt_5 : decode cX6_termAt 5 = .ok (.aload_n 0, 1) := by decide +kernel
theorem dX6_termAt_6 : decode cX6_termAt 6 = .ok (.getfield 9, 3) := by decide +kernel
theorem dX6_termAt_9 : decode cX6_termAt 9 = .ok (.arraylength, 1) := by decide +kernel
theorem dX6_termAt_10 : decode cX6_termAt 10 = .ok (.if_icmp .ge 12, 3) := by decide +kernel
theorem dX6_termAt_13 : decode cX6_termAt 13 = .ok (.aload_n 0, 1) := by decide +kernel
theorem dX6_termAt_14 : decode cX6_termAt 14 = .ok (.getfield 9, 3) := by decide +kernel
theorem dX6_termAt_17 : decode cX6_termAt 17 = .ok (.iload_n 1, 1) := by decide +kernel
theorem dX6_termAt_18 : decode cX6_termAt 18 = .ok (.iaload, 1) := by decide +kernel
theorem dX6_termAt_19 : decode cX6_termAt 19 = .ok (.goto 4, 3) := by decide +kernel
theorem dX6_termAt_22 : decode cX6_termAt 22 = .ok (.iconst 0, 1) := by decide +kernel
theorem dX6_termAt_23 : decode cX6_termAt 23 = .ok (.ireturn, 1) := by decide +kernel
theorem dX6_firstReadsAt_0 : decode cX6_firstReadsAt 0 = .ok (.iload_n 1, 1) := by decide +kernel
theorem dX6_firstReadsAt_1 : decode cX6_firstReadsAt 1 = .ok (.ifCond .lt 21, 3) := by decide +kernel
theorem dX6_firstReadsAt_4 : decode cX6_firstReadsAt 4 = .ok (.iload_n 1, 1) := by decide +kernel
theorem dX6_firstReadsAt_5 : decode cX6_firstReadsAt 5 = .ok (.aload_n 0, 1) := by decide +kernel
theorem dX6_firstReadsAt_6 : decode cX6_firstReadsAt 6 = .ok (.getfield 15, 3) := by decide +kernel
theorem dX6_firstReadsAt_9 : decode cX6_firstReadsAt 9 = .ok (.arraylength, 1) := by decide +kernel
theorem dX6_firstReadsAt_10 : decode cX6_firstReadsAt 10 = .ok (.if_icmp .ge 12, 3) := by decide +kernel
theorem dX6_firstReadsAt_13 : decode cX6_firstReadsAt 13 = .ok (.aload_n 0, 1) := by decide +kernel
theorem dX6_firstReadsAt_14 : decode cX6_firstReadsAt 14 = .ok (.getfield 15, 3) := by decide +kernel
theorem dX6_firstReadsAt_17 : decode cX6_firstReadsAt 17 = .ok (.iload_n 1, 1) := by decide +kernel
theorem dX6_firstReadsAt_18 : decode cX6_firstReadsAt 18 = .ok (.iaload, 1) := by decide +kernel
theorem dX6_firstReadsAt_19 : decode cX6_firstReadsAt 19 = .ok (.goto 4, 3) := by decide +kernel
theorem dX6_firstReadsAt_22 : decode cX6_firstReadsAt 22 = .ok (.iconst 0, 1) := by decide +kernel
theorem dX6_firstReadsAt_23 : decode cX6_firstReadsAt 23 = .ok (.ireturn, 1) := by decide +kernel
theorem dX6_secondReadsAt_0 : decode cX6_secondReadsAt 0 = .ok (.iload_n 1, 1) := by decide +kernel
theorem dX6_secondReadsAt_1 : decode cX6_secondReadsAt 1 = .ok (.ifCond .lt 21, 3) := by decide +kernel
theorem dX6_secondReadsAt_4 : decode cX6_secondReadsAt 4 = .ok (.iload_n 1, 1) := by decide +kernel
theorem dX6_secondReadsAt_5 : decode cX6_secondReadsAt 5 = .ok (.aload_n 0, 1) := by decide +kernel
theorem dX6_secondReadsAt_6 : decode cX6_secondReadsAt 6 = .ok (.getfield 18, 3) := by decide +kernel
theorem dX6_secondReadsAt_9 : decode cX6_secondReadsAt 9 = .ok (.arraylength, 1) := by decide +kernel
theorem dX6_secondReadsAt_10 : decode cX6_secondReadsAt 10 = .ok (.if_icmp .ge 12, 3) := by decide +kernel
theorem dX6_secondReadsAt_13 : decode cX6_secondReadsAt 13 = .ok (.aload_n 0, 1) := by decide +kernel
theorem dX6_secondReadsAt_14 : decode cX6_secondReadsAt 14 = .ok (.getfield 18, 3) := by decide +kernel
theorem dX6_secondReadsAt_17 : decode cX6_secondReadsAt 17 = .ok (.iload_n 1, 1) := by decide +kernel
theorem dX6_secondReadsAt_18 : decode cX6_secondReadsAt 18 = .ok (.iaload, 1) := by decide +kernel
theorem dX6_secondReadsAt_19 : decode cX6_secondReadsAt 19 = .ok (.goto 4, 3) := by decide +kernel
theorem dX6_secondReadsAt_22 : decode cX6_secondReadsAt 22 = .ok (.iconst 0, 1) := by decide +kernel
theorem dX6_secondReadsAt_23 : decode cX6_secondReadsAt 23 = .ok (.ireturn, 1) := by decide +kernel
theorem dX6_divide_0 : decode cX6_divide 0 = .ok (.lload_n 1, 1) := by decide +kernel
theorem dX6_divide_1 : decode cX6_divide 1 = .ok (.lstore 5, 2) := by decide +kernel
theorem dX6_divide_3 : decode cX6_divide 3 = .ok (.lload_n 3, 1) := by decide +kernel
theorem dX6_divide_4 : decode cX6_divide 4 = .ok (.lstore 7, 2) := by decide +kernel
theorem dX6_divide_6 : decode cX6_divide 6 = .ok (.iconst 0, 1) := by decide +kernel
theorem dX6_divide_7 : decode cX6_divide 7 = .ok (.istore 9, 2) := by decide +kernel
theorem dX6_divide_9 : decode cX6_divide 9 = .ok (.iload 9, 2) := by decide +kernel
theorem dX6_divide_11 : decode cX6_divide 11 = .ok (.bipush 60, 2) := by decide +kernel
theorem dX6_divide_13 : decode cX6_divide 13 = .ok (.if_icmp .ge 52, 3) := by decide +kernel
theorem dX6_divide_16 : decode cX6_divide 16 = .ok (.lload 7, 2) := by decide +kernel
theorem dX6_divide_18 : decode cX6_divide 18 = .ok (.lconst 0, 1) := by decide +kernel
theorem dX6_divide_19 : decode cX6_divide 19 = .ok (.lcmp, 1) := by decide +kernel
theorem dX6_divide_20 : decode cX6_divide 20 = .ok (.ifCond .eq 45, 3) := by decide +kernel
theorem dX6_divide_23 : decode cX6_divide 23 = .ok (.lload 5, 2) := by decide +kernel
theorem dX6_divide_25 : decode cX6_divide 25 = .ok (.lload 7, 2) := by decide +kernel
theorem dX6_divide_27 : decode cX6_divide 27 = .ok (.invokestatic 49, 3) := by decide +kernel
theorem dX6_divide_30 : decode cX6_divide 30 = .ok (.lstore 10, 2) := by decide +kernel
theorem dX6_divide_32 : decode cX6_divide 32 = .ok (.aload_n 0, 1) := by decide +kernel
theorem dX6_divide_33 : decode cX6_divide 33 = .ok (.lload 10, 2) := by decide +kernel
theorem dX6_divide_35 : decode cX6_divide 35 = .ok (.l2i, 1) := by decide +kernel
theorem dX6_divide_36 : decode cX6_divide 36 = .ok (.iconst 0, 1) := by decide +kernel
theorem dX6_divide_37 : decode cX6_divide 37 = .ok (.iconst 0, 1) := by decide +kernel
theorem dX6_divide_38 : decode cX6_divide 38 = .ok (.invokevirtual 55, 3) := by decide +kernel
theorem dX6_divide_41 : decode cX6_divide 41 = .ok (.lload 5, 2) := by decide +kernel
theorem dX6_divide_43 : decode cX6_divide 43 = .ok (.lload 10, 2) := by decide +kernel
theorem dX6_divide_45 : decode cX6_divide 45 = .ok (.lload 7, 2) := by decide +kernel
theorem dX6_divide_47 : decode cX6_divide 47 = .ok (.lmul, 1) := by decide +kernel
theorem dX6_divide_48 : decode cX6_divide 48 = .ok (.lsub, 1) := by decide +kernel
theorem dX6_divide_49 : decode cX6_divide 49 = .ok (.lstore 12, 2) := by decide +kernel
theorem dX6_divide_51 : decode cX6_divide 51 = .ok (.lload 7, 2) := by decide +kernel
theorem dX6_divide_53 : decode cX6_divide 53 = .ok (.lstore 5, 2) := by decide +kernel
theorem dX6_divide_55 : decode cX6_divide 55 = .ok (.lload 12, 2) := by decide +kernel
theorem dX6_divide_57 : decode cX6_divide 57 = .ok (.lstore 7, 2) := by decide +kernel
theorem dX6_divide_59 : decode cX6_divide 59 = .ok (.iinc 9 1, 3) := by decide +kernel
theorem dX6_divide_62 : decode cX6_divide 62 = .ok (.goto (-53), 3) := by decide +kernel
theorem dX6_divide_65 : decode cX6_divide 65 = .ok (.aload_n 0, 1) := by decide +kernel
theorem dX6_divide_66 : decode cX6_divide 66 = .ok (.aload_n 0, 1) := by decide +kernel
theorem dX6_divide_67 : decode cX6_divide 67 = .ok (.getfield 36, 3) := by decide +kernel
theorem dX6_divide_70 : decode cX6_divide 70 = .ok (.bipush 60, 2) := by decide +kernel
theorem dX6_divide_72 : decode cX6_divide 72 = .ok (.if_icmp .ge 7, 3) := by decide +kernel
theorem dX6_divide_75 : decode cX6_divide 75 = .ok (.iconst 1, 1) := by decide +kernel
theorem dX6_divide_76 : decode cX6_divide 76 = .ok (.goto 4, 3) := by decide +kernel
theorem dX6_divide_79 : decode cX6_divide 79 = .ok (.iconst 0, 1) := by decide +kernel
theorem dX6_divide_80 : decode cX6_divide 80 = .ok (.putfield 39, 3) := by decide +kernel
theorem dX6_divide_83 : decode cX6_divide 83 = .ok (.return_, 1) := by decide +kernel
theorem dX6_copyTold_0 : decode cX6_copyTold 0 = .ok (.iconst 0, 1) := by decide +kernel
theorem dX6_copyTold_1 : decode cX6_copyTold 1 = .ok (.istore_n 2, 1) := by decide +kernel
theorem dX6_copyTold_2 : decode cX6_copyTold 2 = .ok (.iload_n 2, 1) := by decide +kernel
theorem dX6_copyTold_3 : decode cX6_copyTold 3 = .ok (.aload_n 1, 1) := by decide +kernel
theorem dX6_copyTold_4 : decode cX6_copyTold 4 = .ok (.getfield 59, 3) := by decide +kernel
theorem dX6_copyTold_7 : decode cX6_copyTold 7 = .ok (.if_icmp .ge 30, 3) := by decide +kernel
theorem dX6_copyTold_10 : decode cX6_copyTold 10 = .ok (.iload_n 2, 1) := by decide +kernel
theorem dX6_copyTold_11 : decode cX6_copyTold 11 = .ok (.aload_n 1, 1) := by decide +kernel
theorem dX6_copyTold_12 : decode cX6_copyTold 12 = .ok (.getfield 62, 3) := by decide +kernel
theorem dX6_copyTold_15 : decode cX6_copyTold 15 = .ok (.arraylength, 1) := by decide +kernel
theorem dX6_copyTold_16 : decode cX6_copyTold 16 = .ok (.if_icmp .ge 21, 3) := by decide +kernel
theorem dX6_copyTold_19 : decode cX6_copyTold 19 = .ok (.aload_n 0, 1) := by decide +kernel
theorem dX6_copyTold_20 : decode cX6_copyTold 20 = .ok (.aload_n 1, 1) := by decide +kernel
theorem dX6_copyTold_21 : decode cX6_copyTold 21 = .ok (.getfield 62, 3) := by decide +kernel
theorem dX6_copyTold_24 : decode cX6_copyTold 24 = .ok (.iload_n 2, 1) := by decide +kernel
theorem dX6_copyTold_25 : decode cX6_copyTold 25 = .ok (.iaload, 1) := by decide +kernel
theorem dX6_copyTold_26 : decode cX6_copyTold 26 = .ok (.iconst 0, 1) := by decide +kernel
theorem dX6_copyTold_27 : decode cX6_copyTold 27 = .ok (.iconst 0, 1) := by decide +kernel
theorem dX6_copyTold_28 : decode cX6_copyTold 28 = .ok (.invokevirtual 55, 3) := by decide +kernel
theorem dX6_copyTold_31 : decode cX6_copyTold 31 = .ok (.iinc 2 1, 3) := by decide +kernel
theorem dX6_copyTold_34 : decode cX6_copyTold 34 = .ok (.goto (-32), 3) := by decide +kernel
theorem dX6_copyTold_37 : decode cX6_copyTold 37 = .ok (.aload_n 0, 1) := by decide +kernel
theorem dX6_copyTold_38 : decode cX6_copyTold 38 = .ok (.aload_n 0, 1) := by decide +kernel
theorem dX6_copyTold_39 : decode cX6_copyTold 39 = .ok (.getfield 36, 3) := by decide +kernel
theorem dX6_copyTold_42 : decode cX6_copyTold 42 = .ok (.bipush 60, 2) := by decide +kernel
theorem dX6_copyTold_44 : decode cX6_copyTold 44 = .ok (.if_icmp .ge 7, 3) := by decide +kernel
theorem dX6_copyTold_47 : decode cX6_copyTold 47 = .ok (.iconst 1, 1) := by decide +kernel
theorem dX6_copyTold_48 : decode cX6_copyTold 48 = .ok (.goto 4, 3) := by decide +kernel
theorem dX6_copyTold_51 : decode cX6_copyTold 51 = .ok (.iconst 0, 1) := by decide +kernel
theorem dX6_copyTold_52 : decode cX6_copyTold 52 = .ok (.putfield 39, 3) := by decide +kernel
theorem dX6_copyTold_55 : decode cX6_copyTold 55 = .ok (.return_, 1) := by decide +kernel
theorem dX6_greatestBehindFirst_0 : decode cX6_greatestBehindFirst 0 = .ok (.iconst 0, 1) := by decide +kernel
theorem dX6_greatestBehindFirst_1 : decode cX6_greatestBehindFirst 1 = .ok (.istore_n 1, 1) := by decide +kernel
theorem dX6_greatestBehindFirst_2 : decode cX6_greatestBehindFirst 2 = .ok (.iconst 1, 1) := by decide +kernel
theorem dX6_greatestBehindFirst_3 : decode cX6_greatestBehindFirst 3 = .ok (.istore_n 2, 1) := by decide +kernel
theorem dX6_greatestBehindFirst_4 : decode cX6_greatestBehindFirst 4 = .ok (.iload_n 2, 1) := by decide +kernel
theorem dX6_greatestBehindFirst_5 : decode cX6_greatestBehindFirst 5 = .ok (.aload_n 0, 1) := by decide +kernel
theorem dX6_greatestBehindFirst_6 : decode cX6_greatestBehindFirst 6 = .ok (.getfield 36, 3) := by decide +kernel
theorem dX6_greatestBehindFirst_9 : decode cX6_greatestBehindFirst 9 = .ok (.if_icmp .ge 19, 3) := by decide +kernel
theorem dX6_greatestBehindFirst_12 : decode cX6_greatestBehindFirst 12 = .ok (.iload_n 1, 1) := by decide +kernel
theorem dX6_greatestBehindFirst_13 : decode cX6_greatestBehindFirst 13 = .ok (.aload_n 0, 1) := by decide +kernel
theorem dX6_greatestBehindFirst_14 : decode cX6_greatestBehindFirst 14 = .ok (.iload_n 2, 1) := by decide +kernel
theorem dX6_greatestBehindFirst_15 : decode cX6_greatestBehindFirst 15 = .ok (.invokevirtual 65, 3) := by decide +kernel
theorem dX6_greatestBehindFirst_18 : decode cX6_greatestBehindFirst 18 = .ok (.invokestatic 69, 3) := by decide +kernel
theorem dX6_greatestBehindFirst_21 : decode cX6_greatestBehindFirst 21 = .ok (.istore_n 1, 1) := by decide +kernel
theorem dX6_greatestBehindFirst_22 : decode cX6_greatestBehindFirst 22 = .ok (.iinc 2 1, 3) := by decide +kernel
theorem dX6_greatestBehindFirst_25 : decode cX6_greatestBehindFirst 25 = .ok (.goto (-21), 3) := by decide +kernel
theorem dX6_greatestBehindFirst_28 : decode cX6_greatestBehindFirst 28 = .ok (.iload_n 1, 1) := by decide +kernel
theorem dX6_greatestBehindFirst_29 : decode cX6_greatestBehindFirst 29 = .ok (.ireturn, 1) := by decide +kernel
theorem dX6_wrappedSum_0 : decode cX6_wrappedSum 0 = .ok (.iconst 0, 1) := by decide +kernel
theorem dX6_wrappedSum_1 : decode cX6_wrappedSum 1 = .ok (.istore_n 1, 1) := by decide +kernel
theorem dX6_wrappedSum_2 : decode cX6_wrappedSum 2 = .ok (.iconst 0, 1) := by decide +kernel
theorem dX6_wrappedSum_3 : decode cX6_wrappedSum 3 = .ok (.istore_n 2, 1) := by decide +kernel
theorem dX6_wrappedSum_4 : decode cX6_wrappedSum 4 = .ok (.iload_n 2, 1) := by decide +kernel
theorem dX6_wrappedSum_5 : decode cX6_wrappedSum 5 = .ok (.aload_n 0, 1) := by decide +kernel
theorem dX6_wrappedSum_6 : decode cX6_wrappedSum 6 = .ok (.getfield 36, 3) := by decide +kernel
theorem dX6_wrappedSum_9 : decode cX6_wrappedSum 9 = .ok (.if_icmp .ge 17, 3) := by decide +kernel
theorem dX6_wrappedSum_12 : decode cX6_wrappedSum 12 = .ok (.iload_n 1, 1) := by decide +kernel
theorem dX6_wrappedSum_13 : decode cX6_wrappedSum 13 = .ok (.aload_n 0, 1) := by decide +kernel
theorem dX6_wrappedSum_14 : decode cX6_wrappedSum 14 = .ok (.iload_n 2, 1) := by decide +kernel
theorem dX6_wrappedSum_15 : decode cX6_wrappedSum 15 = .ok (.invokevirtual 65, 3) := by decide +kernel
theorem dX6_wrappedSum_18 : decode cX6_wrappedSum 18 = .ok (.iadd, 1) := by decide +kernel
theorem dX6_wrappedSum_19 : decode cX6_wrappedSum 19 = .ok (.istore_n 1, 1) := by decide +kernel
theorem dX6_wrappedSum_20 : decode cX6_wrappedSum 20 = .ok (.iinc 2 1, 3) := by decide +kernel
theorem dX6_wrappedSum_23 : decode cX6_wrappedSum 23 = .ok (.goto (-19), 3) := by decide +kernel
theorem dX6_wrappedSum_26 : decode cX6_wrappedSum 26 = .ok (.iload_n 1, 1) := by decide +kernel
theorem dX6_wrappedSum_27 : decode cX6_wrappedSum 27 = .ok (.ireturn, 1) := by decide +kernel
theorem dX7_init_0 : decode cX7_init 0 = .ok (.aload_n 0, 1) := by decide +kernel
theorem dX7_init_1 : decode cX7_init 1 = .ok (.invokespecial 3, 3) := by decide +kernel
theorem dX7_init_4 : decode cX7_init 4 = .ok (.aload_n 0, 1) := by decide +kernel
theorem dX7_init_5 : decode cX7_init 5 = .ok (.bipush 60, 2) := by decide +kernel
theorem dX7_init_7 : decode cX7_init 7 = .ok (.newarray .int, 2) := by decide +kernel
theorem dX7_init_9 : decode cX7_init 9 = .ok (.putfield 9, 3) := by decide +kernel
theorem dX7_init_12 : decode cX7_init 12 = .ok (.aload_n 0, 1) := by decide +kernel
theorem dX7_init_13 : decode cX7_init 13 = .ok (.aload_n 1, 1) := by decide +kernel
theorem dX7_init_14 : decode cX7_init 14 = .ok (.putfield 15, 3) := by decide +kernel
theorem dX7_init_17 : decode cX7_init 17 = .ok (.return_, 1) := by decide +kernel
theorem dX7_parse_0 : decode cX7_parse 0 = .ok (.aload_n 0, 1) := by decide +kernel
theorem dX7_parse_1 : decode cX7_parse 1 = .ok (.iconst 0, 1) := by decide +kernel
theorem dX7_parse_2 : decode cX7_parse 2 = .ok (.putfield 19, 3) := by decide +kernel
theorem dX7_parse_5 : decode cX7_parse 5 = .ok (.aload_n 0, 1) := by decide +kernel
theorem dX7_parse_6 : decode cX7_parse 6 = .ok (.iconst (-1), 1) := by decide +kernel
theorem dX7_parse_7 : decode cX7_parse 7 = .ok (.putfield 23, 3) := by decide +kernel
theorem dX7_parse_10 : decode cX7_parse 10 = .ok (.aload_n 0, 1) := by decide +kernel
theorem dX7_parse_11 : decode cX7_parse 11 = .ok (.getfield 15, 3) := by decide +kernel
theorem dX7_parse_14 : decode cX7_parse 14 = .ok (.bipush 91, 2) := by decide +kernel
theorem dX7_parse_16 : decode cX7_parse 16 = .ok (.invokevirtual 26, 3) := by decide +kernel
theorem dX7_parse_19 : decode cX7_parse 19 = .ok (.aload_n 0, 1) := by decide +kernel
theorem dX7_parse_20 : decode cX7_parse 20 = .ok (.getfield 15, 3) := by decide +kernel
theorem dX7_parse_23 : decode cX7_parse 23 = .ok (.bipush 45, 2) := by decide +kernel
theorem dX7_parse_25 : decode cX7_parse 25 = .ok (.invokevirtual 32, 3) := by decide +kernel
theorem dX7_parse_28 : decode cX7_parse 28 = .ok (.istore_n 1, 1) := by decide +kernel
theorem dX7_parse_29 : decode cX7_parse 29 = .ok (.aload_n 0, 1) := by decide +kernel
theorem dX7_parse_30 : decode cX7_parse 30 = .ok (.getfield 15, 3) := by decide +kernel
theorem dX7_parse_33 : decode cX7_parse 33 = .ok (.iconst 0, 1) := by decide +kernel
theorem dX7_parse_34 : decode cX7_parse 34 = .ok (.invokevirtual 36, 3) := by decide +kernel
theorem dX7_parse_37 : decode cX7_parse 37 = .ok (.istore_n 2, 1) := by decide +kernel
theorem dX7_parse_38 : decode cX7_parse 38 = .ok (.aload_n 0, 1) := by decide +kernel
theorem dX7_parse_39 : decode cX7_parse 39 = .ok (.iload_n 1, 1) := by decide +kernel
theorem dX7_parse_40 : decode cX7_parse 40 = .ok (.ifCond .eq 8, 3) := by decide +kernel
theorem dX7_parse_43 : decode cX7_parse 43 = .ok (.iload_n 2, 1) := by decide +kernel
theorem dX7_parse_44 : decode cX7_parse 44 = .ok (.ineg, 1) := by decide +kernel
theorem dX7_parse_45 : decode cX7_parse 45 = .ok (.goto 4, 3) := by decide +kernel
theorem dX7_parse_48 : decode cX7_parse 48 = .ok (.iload_n 2, 1) := by decide +kernel
theorem dX7_parse_49 : decode cX7_parse 49 = .ok (.invokevirtual 40, 3) := by decide +kernel
theorem dX7_parse_52 : decode cX7_parse 52 = .ok (.iconst 0, 1) := by decide +kernel
theorem dX7_parse_53 : decode cX7_parse 53 = .ok (.istore_n 3, 1) := by decide +kernel
theorem dX7_parse_54 : decode cX7_parse 54 = .ok (.iload_n 3, 1) := by decide +kernel
theorem dX7_parse_55 : decode cX7_parse 55 = .ok (.sipush 200, 3) := by decide +kernel
theorem dX7_parse_58 : decode cX7_parse 58 = .ok (.if_icmp .ge 63, 3) := by decide +kernel
theorem dX7_parse_61 : decode cX7_parse 61 = .ok (.aload_n 0, 1) := by decide +kernel
theorem dX7_parse_62 : decode cX7_parse 62 = .ok (.getfield 23, 3) := by decide +kernel
theorem dX7_parse_65 : decode cX7_parse 65 = .ok (.iconst (-1), 1) := by decide +kernel
theorem dX7_parse_66 : decode cX7_parse 66 = .ok (.if_icmp .ne 55, 3) := by decide +kernel
theorem dX7_parse_69 : decode cX7_parse 69 = .ok (.aload_n 0, 1) := by decide +kernel
theorem dX7_parse_70 : decode cX7_parse 70 = .ok (.invokevirtual 43, 3) := by decide +kernel
theorem dX7_parse_73 : decode cX7_parse 73 = .ok (.ifCond .eq 48, 3) := by decide +kernel
theorem dX7_parse_76 : decode cX7_parse 76 = .ok (.aload_n 0, 1) := by decide +kernel
theorem dX7_parse_77 : decode cX7_parse 77 = .ok (.getfield 15, 3) := by decide +kernel
theorem dX7_parse_80 : decode cX7_parse 80 = .ok (.bipush 40, 2) := by decide +kernel
theorem dX7_parse_82 : decode cX7_parse 82 = .ok (.invokevirtual 32, 3) := by decide +kernel
theorem dX7_parse_85 : decode cX7_parse 85 = .ok (.ifCond .eq 18, 3) := by decide +kernel
theorem dX7_parse_88 : decode cX7_parse 88 = .ok (.aload_n 0, 1) := by decide +kernel
theorem dX7_parse_89 : decode cX7_parse 89 = .ok (.aload_n 0, 1) := by decide +kernel
theorem dX7_parse_90 : decode cX7_parse 90 = .ok (.getfield 19, 3) := by decide +kernel
theorem dX7_parse_93 : decode cX7_parse 93 = .ok (.putfield 23, 3) := by decide +kernel
theorem dX7_parse_96 : decode cX7_parse 96 = .ok (.aload_n 0, 1) := by decide +kernel
theorem dX7_parse_97 : decode cX7_parse 97 = .ok (.invokevirtual 47, 3) := by decide +kernel
theorem dX7_parse_100 : decode cX7_parse 100 = .ok (.goto 15, 3) := by decide +kernel
theorem dX7_parse_103 : decode cX7_parse 103 = .ok (.aload_n 0, 1) := by decide +kernel
theorem dX7_parse_104 : decode cX7_parse 104 = .ok (.aload_n 0, 1) := by decide +kernel
theorem dX7_parse_105 : decode cX7_parse 105 = .ok (.getfield 15, 3) := by decide +kernel
theorem dX7_parse_108 : decode cX7_parse 108 = .ok (.iconst 1, 1) := by decide +kernel
theorem dX7_parse_109 : decode cX7_parse 109 = .ok (.invokevirtual 36, 3) := by decide +kernel
theorem dX7_parse_112 : decode cX7_parse 112 = .ok (.invokevirtual 40, 3) := by decide +kernel
theorem dX7_parse_115 : decode cX7_parse 115 = .ok (.iinc 3 1, 3) := by decide +kernel
theorem dX7_parse_118 : decode cX7_parse 118 = .ok (.goto (-64), 3) := by decide +kernel
theorem dX7_parse_121 : decode cX7_parse 121 = .ok (.aload_n 0, 1) := by decide +kernel
theorem dX7_parse_122 : decode cX7_parse 122 = .ok (.getfield 15, 3) := by decide +kernel
theorem dX7_parse_125 : decode cX7_parse 125 = .ok (.bipush 93, 2) := by decide +kernel
theorem dX7_parse_127 : decode cX7_parse 127 = .ok (.invokevirtual 26, 3) := by decide +kernel
theorem dX7_parse_130 : decode cX7_parse 130 = .ok (.aload_n 0, 1) := by decide +kernel
theorem dX7_parse_131 : decode cX7_parse 131 = .ok (.getfield 15, 3) := by decide +kernel
theorem dX7_parse_134 : decode cX7_parse 134 = .ok (.sipush 257, 3) := by decide +kernel
theorem dX7_parse_137 : decode cX7_parse 137 = .ok (.invokevirtual 26, 3) := by decide +kernel
theorem dX7_parse_140 : decode cX7_parse 140 = .ok (.return_, 1) := by decide +kernel
theorem dX7_parseBrackets_0 : decode cX7_parseBrackets 0 = .ok (.aload_n 0, 1) := by decide +kernel
theorem dX7_parseBrackets_1 : decode cX7_parseBrackets 1 = .ok (.aload_n 0, 1) := by decide +kernel
theorem dX7_parseBrackets_2 : decode cX7_parseBrackets 2 = .ok (.getfield 15, 3) := by decide +kernel
theorem dX7_parseBrackets_5 : decode cX7_parseBrackets 5 = .ok (.iconst 1, 1) := by decide +kernel
theorem dX7_parseBrackets_6 : decode cX7_parseBrackets 6 = .ok (.invokevirtual 36, 3) := by decide +kernel
theorem dX7_parseBrackets_9 : decode cX7_parseBrackets 9 = .ok (.invokevirtual 40, 3) := by decide +kernel
theorem dX7_parseBrackets_12 : decode cX7_parseBrackets 12 = .ok (.iconst 0, 1) := by decide +kernel
theorem dX7_parseBrackets_13 : decode cX7_parseBrackets 13 = .ok (.istore_n 1, 1) := by decide +kernel
theorem dX7_parseBrackets_14 : decode cX7_parseBrackets 14 = .ok (.iload_n 1, 1) := by decide +kernel
theorem dX7_parseBrackets_15 : decode cX7_parseBrackets 15 = .ok (.sipush 200, 3) := by decide +kernel
theorem dX7_parseBrackets_18 : decode cX7_parseBrackets 18 = .ok (.if_icmp .ge 28, 3) := by decide +kernel
theorem dX7_parseBrackets_21 : decode cX7_parseBrackets 21 = .ok (.aload_n 0, 1) := by decide +kernel
theorem dX7_parseBrackets_22 : decode cX7_parseBrackets 22 = .ok (.invokevirtual 43, 3) := by decide +kernel
theorem dX7_parseBrackets_25 : decode cX7_parseBrackets 25 = .ok (.ifCond .eq 21, 3) := by decide +kernel
theorem dX7_parseBrackets_28 : decode cX7_parseBrackets 28 = .ok (.aload_n 0, 1) := by decide +kernel
theorem dX7_parseBrackets_29 : decode cX7_parseBrackets 29 = .ok (.aload_n 0, 1) := by decide +kernel
theorem dX7_parseBrackets_30 : decode cX7_parseBrackets 30 = .ok (.getfield 15, 3) := by decide +kernel
theorem dX7_parseBrackets_33 : decode cX7_parseBrackets 33 = .ok (.iconst 1, 1) := by decide +kernel
theorem dX7_parseBrackets_34 : decode cX7_parseBrackets 34 = .ok (.invokevirtual 36, 3) := by decide +kernel
theorem dX7_parseBrackets_37 : decode cX7_parseBrackets 37 = .ok (.invokevirtual 40, 3) := by decide +kernel
theorem dX7_parseBrackets_40 : decode cX7_parseBrackets 40 = .ok (.iinc 1 1, 3) := by decide +kernel
theorem dX7_parseBrackets_43 : decode cX7_parseBrackets 43 = .ok (.goto (-29), 3) := by decide +kernel
theorem dX7_parseBrackets_46 : decode cX7_parseBrackets 46 = .ok (.aload_n 0, 1) := by decide +kernel
theorem dX7_parseBrackets_47 : decode cX7_parseBrackets 47 = .ok (.getfield 15, 3) := by decide +kernel
theorem dX7_parseBrackets_50 : decode cX7_parseBrackets 50 = .ok (.bipush 41, 2) := by decide +kernel
theorem dX7_parseBrackets_52 : decode cX7_parseBrackets 52 = .ok (.invokevirtual 26, 3) := by decide +kernel
theorem dX7_parseBrackets_55 : decode cX7_parseBrackets 55 = .ok (.return_, 1) := by decide +kernel
theorem dX7_takeMark_0 : decode cX7_takeMark 0 = .ok (.aload_n 0, 1) := by decide +kernel
theorem dX7_takeMark_1 : decode cX7_takeMark 1 = .ok (.getfield 15, 3) := by decide +kernel
theorem dX7_takeMark_4 : decode cX7_takeMark 4 = .ok (.bipush 59, 2) := by decide +kernel
theorem dX7_takeMark_6 : decode cX7_takeMark 6 = .ok (.invokevirtual 32, 3) := by decide +kernel
theorem dX7_takeMark_9 : decode cX7_takeMark 9 = .ok (.ifCond .ne 15, 3) := by decide +kernel
theorem dX7_takeMark_12 : decode cX7_takeMark 12 = .ok (.aload_n 0, 1) := by decide +kernel
theorem dX7_takeMark_13 : decode cX7_takeMark 13 = .ok (.getfield 15, 3) := by decide +kernel
theorem dX7_takeMark_16 : decode cX7_takeMark 16 = .ok (.bipush 44, 2) := by decide +kernel
theorem dX7_takeMark_18 : decode cX7_takeMark 18 = .ok (.invokevirtual 32, 3) := by decide +kernel
theorem dX7_takeMark_21 : decode cX7_takeMark 21 = .ok (.ifCond .eq 7, 3) := by decide +kernel
theorem dX7_takeMark_24 : decode cX7_takeMark 24 = .ok (.iconst 1, 1) := by decide +kernel
theorem dX7_takeMark_25 : decode cX7_takeMark 25 = .ok (.goto 4, 3) := by decide +kernel
theorem dX7_takeMark_28 : decode cX7_takeMark 28 = .ok (.iconst 0, 1) := by decide +kernel
theorem dX7_takeMark_29 : decode cX7_takeMark 29 = .ok (.ireturn, 1) := by decide +kernel
theorem dX7_keep_0 : decode cX7_keep 0 = .ok (.aload_n 0, 1) := by decide +kernel
theorem dX7_keep_1 : decode cX7_keep 1 = .ok (.getfield 19, 3) := by decide +kernel
theorem dX7_keep_4 : decode cX7_keep 4 = .ok (.ifCond .lt 25, 3) := by decide +kernel
theorem dX7_keep_7 : decode cX7_keep 7 = .ok (.aload_n 0, 1) := by decide +kernel
theorem dX7_keep_8 : decode cX7_keep 8 = .ok (.getfield 19, 3) := by decide +kernel
theorem dX7_keep_11 : decode cX7_keep 11 = .ok (.aload_n 0, 1) := by decide +kernel
theorem dX7_keep_12 : decode cX7_keep 12 = .ok (.getfield 9, 3) := by decide +kernel
theorem dX7_keep_15 : decode cX7_keep 15 = .ok (.arraylength, 1) := by decide +kernel
theorem dX7_keep_16 : decode cX7_keep 16 = .ok (.if_icmp .ge 13, 3) := by decide +kernel
theorem dX7_keep_19 : decode cX7_keep 19 = .ok (.aload_n 0, 1) := by decide +kernel
theorem dX7_keep_20 : decode cX7_keep 20 = .ok (.getfield 9, 3) := by decide +kernel
theorem dX7_keep_23 : decode cX7_keep 23 = .ok (.aload_n 0, 1) := by decide +kernel
theorem dX7_keep_24 : decode cX7_keep 24 = .ok (.getfield 19, 3) := by decide +kernel
theorem dX7_keep_27 : decode cX7_keep 27 = .ok (.iload_n 1, 1) := by decide +kernel
theorem dX7_keep_28 : decode cX7_keep 28 = .ok (.iastore, 1) := by decide +kernel
theorem dX7_keep_29 : decode cX7_keep 29 = .ok (.aload_n 0, 1) := by decide +kernel
theorem dX7_keep_30 : decode cX7_keep 30 = .ok (.dup, 1) := by decide +kernel
theorem dX7_keep_31 : decode cX7_keep 31 = .ok (.getfield 19, 3) := by decide +kernel
theorem dX7_keep_34 : decode cX7_keep 34 = .ok (.iconst 1, 1) := by decide +kernel
theorem dX7_keep_35 : decode cX7_keep 35 = .ok (.iadd, 1) := by decide +kernel
theorem dX7_keep_36 : decode cX7_keep 36 = .ok (.putfield 19, 3) := by decide +kernel
theorem dX7_keep_39 : decode cX7_keep 39 = .ok (.return_, 1) := by decide +kernel
theorem dX7_tellTo_0 : decode cX7_tellTo 0 = .ok (.aload_n 0, 1) := by decide +kernel
theorem dX7_tellTo_1 : decode cX7_tellTo 1 = .ok (.getfield 23, 3) := by decide +kernel
theorem dX7_tellTo_4 : decode cX7_tellTo 4 = .ok (.iconst (-1), 1) := by decide +kernel
theorem dX7_tellTo_5 : decode cX7_tellTo 5 = .ok (.if_icmp .ne 15, 3) := by decide +kernel
theorem dX7_tellTo_8 : decode cX7_tellTo 8 = .ok (.aload_n 0, 1) := by decide +kernel
theorem dX7_tellTo_9 : decode cX7_tellTo 9 = .ok (.getfield 19, 3) := by decide +kernel
theorem dX7_tellTo_12 : decode cX7_tellTo 12 = .ok (.bipush 60, 2) := by decide +kernel
theorem dX7_tellTo_14 : decode cX7_tellTo 14 = .ok (.invokestatic 50, 3) := by decide +kernel
theorem dX7_tellTo_17 : decode cX7_tellTo 17 = .ok (.goto 5, 3) := by decide +kernel
theorem dX7_tellTo_20 : decode cX7_tellTo 20 = .ok (.bipush 60, 2) := by decide +kernel
theorem dX7_tellTo_22 : decode cX7_tellTo 22 = .ok (.istore_n 2, 1) := by decide +kernel
theorem dX7_tellTo_23 : decode cX7_tellTo 23 = .ok (.iconst 0, 1) := by decide +kernel
theorem dX7_tellTo_24 : decode cX7_tellTo 24 = .ok (.istore_n 3, 1) := by decide +kernel
theorem dX7_tellTo_25 : decode cX7_tellTo 25 = .ok (.iload_n 3, 1) := by decide +kernel
theorem dX7_tellTo_26 : decode cX7_tellTo 26 = .ok (.iload_n 2, 1) := by decide +kernel
theorem dX7_tellTo_27 : decode cX7_tellTo 27 = .ok (.if_icmp .ge 68, 3) := by decide +kernel
theorem dX7_tellTo_30 : decode cX7_tellTo 30 = .ok (.iload_n 3, 1) := by decide +kernel
theorem dX7_tellTo_31 : decode cX7_tellTo 31 = .ok (.aload_n 0, 1) := by decide +kernel
theorem dX7_tellTo_32 : decode cX7_tellTo 32 = .ok (.getfield 9, 3) := by decide +kernel
theorem dX7_tellTo_35 : decode cX7_tellTo 35 = .ok (.arraylength, 1) := by decide +kernel
theorem dX7_tellTo_36 : decode cX7_tellTo 36 = .ok (.if_icmp .ge 59, 3) := by decide +kernel
theorem dX7_tellTo_39 : decode cX7_tellTo 39 = .ok (.iload_n 3, 1) := by decide +kernel
theorem dX7_tellTo_40 : decode cX7_tellTo 40 = .ok (.aload_n 1, 1) := by decide +kernel
theorem dX7_tellTo_41 : decode cX7_tellTo 41 = .ok (.getfield 56, 3) := by decide +kernel
theorem dX7_tellTo_44 : decode cX7_tellTo 44 = .ok (.arraylength, 1) := by decide +kernel
theorem dX7_tellTo_45 : decode cX7_tellTo 45 = .ok (.if_icmp .ge 50, 3) := by decide +kernel
theorem dX7_tellTo_48 : decode cX7_tellTo 48 = .ok (.iload_n 3, 1) := by decide +kernel
theorem dX7_tellTo_49 : decode cX7_tellTo 49 = .ok (.aload_n 0, 1) := by decide +kernel
theorem dX7_tellTo_50 : decode cX7_tellTo 50 = .ok (.getfield 19, 3) := by decide +kernel
theorem dX7_tellTo_53 : decode cX7_tellTo 53 = .ok (.if_icmp .lt 24, 3) := by decide +kernel
theorem dX7_tellTo_56 : decode cX7_tellTo 56 = .ok (.aload_n 0, 1) := by decide +kernel
theorem dX7_tellTo_57 : decode cX7_tellTo 57 = .ok (.getfield 9, 3) := by decide +kernel
theorem dX7_tellTo_60 : decode cX7_tellTo 60 = .ok (.iload_n 3, 1) := by decide +kernel
theorem dX7_tellTo_61 : decode cX7_tellTo 61 = .ok (.aload_n 0, 1) := by decide +kernel
theorem dX7_tellTo_62 : decode cX7_tellTo 62 = .ok (.iload_n 3, 1) := by decide +kernel
theorem dX7_tellTo_63 : decode cX7_tellTo 63 = .ok (.aload_n 0, 1) := by decide +kernel
theorem dX7_tellTo_64 : decode cX7_tellTo 64 = .ok (.getfield 19, 3) := by decide +kernel
theorem dX7_tellTo_67 : decode cX7_tellTo 67 = .ok (.aload_n 0, 1) := by decide +kernel
theorem dX7_tellTo_68 : decode cX7_tellTo 68 = .ok (.getfield 23, 3) := by decide +kernel
theorem dX7_tellTo_71 : decode cX7_tellTo 71 = .ok (.isub, 1) := by decide +kernel
theorem dX7_tellTo_72 : decode cX7_tellTo 72 = .ok (.isub, 1) := by decide +kernel
theorem dX7_tellTo_73 : decode cX7_tellTo 73 = .ok (.invokevirtual 61, 3) := by decide +kernel
theorem dX7_tellTo_76 : decode cX7_tellTo 76 = .ok (.iastore, 1) := by decide +kernel
theorem dX7_tellTo_77 : decode cX7_tellTo 77 = .ok (.aload_n 1, 1) := by decide +kernel
theorem dX7_tellTo_78 : decode cX7_tellTo 78 = .ok (.getfield 56, 3) := by decide +kernel
theorem dX7_tellTo_81 : decode cX7_tellTo 81 = .ok (.iload_n 3, 1) := by decide +kernel
theorem dX7_tellTo_82 : decode cX7_tellTo 82 = .ok (.aload_n 0, 1) := by decide +kernel
theorem dX7_tellTo_83 : decode cX7_tellTo 83 = .ok (.getfield 9, 3) := by decide +kernel
theorem dX7_tellTo_86 : decode cX7_tellTo 86 = .ok (.iload_n 3, 1) := by decide +kernel
theorem dX7_tellTo_87 : decode cX7_tellTo 87 = .ok (.iaload, 1) := by decide +kernel
theorem dX7_tellTo_88 : decode cX7_tellTo 88 = .ok (.iastore, 1) := by decide +kernel
theorem dX7_tellTo_89 : decode cX7_tellTo 89 = .ok (.iinc 3 1, 3) := by decide +kernel
theorem dX7_tellTo_92 : decode cX7_tellTo 92 = .ok (.goto (-67), 3) := by decide +kernel
theorem dX7_tellTo_95 : decode cX7_tellTo 95 = .ok (.aload_n 1, 1) := by decide +kernel
theorem dX7_tellTo_96 : decode cX7_tellTo 96 = .ok (.iload_n 2, 1) := by decide +kernel
theorem dX7_tellTo_97 : decode cX7_tellTo 97 = .ok (.putfield 64, 3) := by decide +kernel
theorem dX7_tellTo_100 : decode cX7_tellTo 100 = .ok (.return_, 1) := by decide +kernel
theorem dX7_earlierTerm_0 : decode cX7_earlierTerm 0 = .ok (.iload_n 1, 1) := by decide +kernel
theorem dX7_earlierTerm_1 : decode cX7_earlierTerm 1 = .ok (.ifCond .lt 21, 3) := by decide +kernel
theorem dX7_earlierTerm_4 : decode cX7_earlierTerm 4 = .ok (.iload_n 1, 1) := by decide +kernel
theorem dX7_earlierTerm_5 : decode cX7_earlierTerm 5 = .ok (.aload_n 0, 1) := by decide +kernel
theorem dX7_earlierTerm_6 : decode cX7_earlierTerm 6 = .ok (.getfield 9, 3) := by decide +kernel
theorem dX7_earlierTerm_9 : decode cX7_earlierTerm 9 = .ok (.arraylength, 1) := by decide +kernel
theorem dX7_earlierTerm_10 : decode cX7_earlierTerm 10 = .ok (.if_icmp .ge 12, 3) := by decide +kernel
theorem dX7_earlierTerm_13 : decode cX7_earlierTerm 13 = .ok (.aload_n 0, 1) := by decide +kernel
theorem dX7_earlierTerm_14 : decode cX7_earlierTerm 14 = .ok (.getfield 9, 3) := by decide +kernel
theorem dX7_earlierTerm_17 : decode cX7_earlierTerm 17 = .ok (.iload_n 1, 1) := by decide +kernel
theorem dX7_earlierTerm_18 : decode cX7_earlierTerm 18 = .ok (.iaload, 1) := by decide +kernel
theorem dX7_earlierTerm_19 : decode cX7_earlierTerm 19 = .ok (.goto 4, 3) := by decide +kernel
theorem dX7_earlierTerm_22 : decode cX7_earlierTerm 22 = .ok (.iconst 0, 1) := by decide +kernel
theorem dX7_earlierTerm_23 : decode cX7_earlierTerm 23 = .ok (.ireturn, 1) := by decide +kernel
theorem dX8_init_0 : decode cX8_init 0 = .ok (.aload_n 0, 1) := by decide +kernel
theorem dX8_init_1 : decode cX8_init 1 = .ok (.invokespecial 3, 3) := by decide +kernel
theorem dX8_init_4 : decode cX8_init 4 = .ok (.aload_n 0, 1) := by decide +kernel
theorem dX8_init_5 : decode cX8_init 5 = .ok (.sipush 800, 3) := by decide +kernel
theorem dX8_init_8 : decode cX8_init 8 = .ok (.newarray .int, 2) := by decide +kernel
theorem dX8_init_10 : decode cX8_init 10 = .ok (.putfield 9, 3) := by decide +kernel
theorem dX8_init_13 : decode cX8_init 13 = .ok (.return_, 1) := by decide +kernel
theorem dX8_start_0 : decode cX8_start 0 = .ok (.aload_n 0, 1) := by decide +kernel
theorem dX8_start_1 : decode cX8_start 1 = .ok (.iconst 0, 1) := by decide +kernel
theorem dX8_start_2 : decode cX8_start 2 = .ok (.putfield 15, 3) := by decide +kernel
theorem dX8_start_5 : decode cX8_start 5 = .ok (.return_, 1) := by decide +kernel
theorem dX8_byteAt_0 : decode cX8_byteAt 0 = .ok (.iload_n 1, 1) := by decide +kernel
theorem dX8_byteAt_1 : decode cX8_byteAt 1 = .ok (.ifCond .lt 29, 3) := by decide +kernel
theorem dX8_byteAt_4 : decode cX8_byteAt 4 = .ok (.iload_n 1, 1) := by decide +kernel
theorem dX8_byteAt_5 : decode cX8_byteAt 5 = .ok (.aload_n 0, 1) := by decide +kernel
theorem dX8_byteAt_6 : decode cX8_byteAt 6 = .ok (.getfield 15, 3) := by decide +kernel
theorem dX8_byteAt_9 : decode cX8_byteAt 9 = .ok (.if_icmp .ge 21, 3) := by decide +kernel
theorem dX8_byteAt_12 : decode cX8_byteAt 12 = .ok (.iload_n 1, 1) := by decide +kernel
theorem dX8_byteAt_13 : decode cX8_byteAt 13 = .ok (.aload_n 0, 1) := by decide +kernel
theorem dX8_byteAt_14 : decode cX8_byteAt 14 = .ok (.getfield 9, 3) := by decide +kernel
theorem dX8_byteAt_17 : decode cX8_byteAt 17 = .ok (.arraylength, 1) := by decide +kernel
theorem dX8_byteAt_18 : decode cX8_byteAt 18 = .ok (.if_icmp .ge 12, 3) := by decide +kernel
theorem dX8_byteAt_21 : decode cX8_byteAt 21 = .ok (.aload_n 0, 1) := by decide +kernel
theorem dX8_byteAt_22 : decode cX8_byteAt 22 = .ok (.getfield 9, 3) := by decide +kernel
theorem dX8_byteAt_25 : decode cX8_byteAt 25 = .ok (.iload_n 1, 1) := by decide +kernel
theorem dX8_byteAt_26 : decode cX8_byteAt 26 = .ok (.iaload, 1) := by decide +kernel
theorem dX8_byteAt_27 : decode cX8_byteAt 27 = .ok (.goto 4, 3) := by decide +kernel
theorem dX8_byteAt_30 : decode cX8_byteAt 30 = .ok (.iconst (-1), 1) := by decide +kernel
theorem dX8_byteAt_31 : decode cX8_byteAt 31 = .ok (.ireturn, 1) := by decide +kernel
theorem dX8_putFirst_0 : decode cX8_putFirst 0 = .ok (.iload_n 2, 1) := by decide +kernel
theorem dX8_putFirst_1 : decode cX8_putFirst 1 = .ok (.aload_n 1, 1) := by decide +kernel
theorem dX8_putFirst_2 : decode cX8_putFirst 2 = .ok (.getfield 19, 3) := by decide +kernel
theorem dX8_putFirst_5 : decode cX8_putFirst 5 = .ok (.invokestatic 24, 3) := by decide +kernel
theorem dX8_putFirst_8 : decode cX8_putFirst 8 = .ok (.istore_n 3, 1) := by decide +kernel
theorem dX8_putFirst_9 : decode cX8_putFirst 9 = .ok (.aload_n 0, 1) := by decide +kernel
theorem dX8_putFirst_10 : decode cX8_putFirst 10 = .ok (.bipush 91, 2) := by decide +kernel
theorem dX8_putFirst_12 : decode cX8_putFirst 12 = .ok (.invokevirtual 30, 3) := by decide +kernel
theorem dX8_putFirst_15 : decode cX8_putFirst 15 = .ok (.aload_n 0, 1) := by decide +kernel
theorem dX8_putFirst_16 : decode cX8_putFirst 16 = .ok (.aload_n 1, 1) := by decide +kernel
theorem dX8_putFirst_17 : decode cX8_putFirst 17 = .ok (.iconst 0, 1) := by decide +kernel
theorem dX8_putFirst_18 : decode cX8_putFirst 18 = .ok (.iload_n 3, 1) := by decide +kernel
theorem dX8_putFirst_19 : decode cX8_putFirst 19 = .ok (.invokevirtual 34, 3) := by decide +kernel
theorem dX8_putFirst_22 : decode cX8_putFirst 22 = .ok (.aload_n 1, 1) := by decide +kernel
theorem dX8_putFirst_23 : decode cX8_putFirst 23 = .ok (.getfield 19, 3) := by decide +kernel
theorem dX8_putFirst_26 : decode cX8_putFirst 26 = .ok (.iload_n 3, 1) := by decide +kernel
theorem dX8_putFirst_27 : decode cX8_putFirst 27 = .ok (.if_icmp .gt 11, 3) := by decide +kernel
theorem dX8_putFirst_30 : decode cX8_putFirst 30 = .ok (.aload_n 1, 1) := by decide +kernel
theorem dX8_putFirst_31 : decode cX8_putFirst 31 = .ok (.getfield 38, 3) := by decide +kernel
theorem dX8_putFirst_34 : decode cX8_putFirst 34 = .ok (.iconst 1, 1) := by decide +kernel
theorem dX8_putFirst_35 : decode cX8_putFirst 35 = .ok (.if_icmp .eq 9, 3) := by decide +kernel
theorem dX8_putFirst_38 : decode cX8_putFirst 38 = .ok (.aload_n 0, 1) := by decide +kernel
theorem dX8_putFirst_39 : decode cX8_putFirst 39 = .ok (.bipush 126, 2) := by decide +kernel
theorem dX8_putFirst_41 : decode cX8_putFirst 41 = .ok (.invokevirtual 30, 3) := by decide +kernel
theorem dX8_putFirst_44 : decode cX8_putFirst 44 = .ok (.aload_n 0, 1) := by decide +kernel
theorem dX8_putFirst_45 : decode cX8_putFirst 45 = .ok (.bipush 93, 2) := by decide +kernel
theorem dX8_putFirst_47 : decode cX8_putFirst 47 = .ok (.invokevirtual 30, 3) := by decide +kernel
theorem dX8_putFirst_50 : decode cX8_putFirst 50 = .ok (.return_, 1) := by decide +kernel
theorem dX8_putReturning_0 : decode cX8_putReturning 0 = .ok (.aload_n 0, 1) := by decide +kernel
theorem dX8_putReturning_1 : decode cX8_putReturning 1 = .ok (.bipush 91, 2) := by decide +kernel
theorem dX8_putReturning_3 : decode cX8_putReturning 3 = .ok (.invokevirtual 30, 3) := by decide +kernel
theorem dX8_putReturning_6 : decode cX8_putReturning 6 = .ok (.aload_n 0, 1) := by decide +kernel
theorem dX8_putReturning_7 : decode cX8_putReturning 7 = .ok (.aload_n 1, 1) := by decide +kernel
theorem dX8_putReturning_8 : decode cX8_putReturning 8 = .ok (.iconst 0, 1) := by decide +kernel
theorem dX8_putReturning_9 : decode cX8_putReturning 9 = .ok (.iload_n 2, 1) := by decide +kernel
theorem dX8_putReturning_10 : decode cX8_putReturning 10 = .ok (.invokevirtual 34, 3) := by decide +kernel
theorem dX8_putReturning_13 : decode cX8_putReturning 13 = .ok (.aload_n 0, 1) := by decide +kernel
theorem dX8_putReturning_14 : decode cX8_putReturning 14 = .ok (.iload_n 2, 1) := by decide +kernel
theorem dX8_putReturning_15 : decode cX8_putReturning 15 = .ok (.invokevirtual 41, 3) := by decide +kernel
theorem dX8_putReturning_18 : decode cX8_putReturning 18 = .ok (.aload_n 0, 1) := by decide +kernel
theorem dX8_putReturning_19 : decode cX8_putReturning 19 = .ok (.bipush 40, 2) := by decide +kernel
theorem dX8_putReturning_21 : decode cX8_putReturning 21 = .ok (.invokevirtual 30, 3) := by decide +kernel
theorem dX8_putReturning_24 : decode cX8_putReturning 24 = .ok (.aload_n 0, 1) := by decide +kernel
theorem dX8_putReturning_25 : decode cX8_putReturning 25 = .ok (.aload_n 1, 1) := by decide +kernel
theorem dX8_putReturning_26 : decode cX8_putReturning 26 = .ok (.iload_n 2, 1) := by decide +kernel
theorem dX8_putReturning_27 : decode cX8_putReturning 27 = .ok (.invokevirtual 45, 3) := by decide +kernel
theorem dX8_putReturning_30 : decode cX8_putReturning 30 = .ok (.invokevirtual 49, 3) := by decide +kernel
theorem dX8_putReturning_33 : decode cX8_putReturning 33 = .ok (.aload_n 0, 1) := by decide +kernel
theorem dX8_putReturning_34 : decode cX8_putReturning 34 = .ok (.aload_n 1, 1) := by decide +kernel
theorem dX8_putReturning_35 : decode cX8_putReturning 35 = .ok (.iload_n 2, 1) := by decide +kernel
theorem dX8_putReturning_36 : decode cX8_putReturning 36 = .ok (.iconst 1, 1) := by decide +kernel
theorem dX8_putReturning_37 : decode cX8_putReturning 37 = .ok (.iadd, 1) := by decide +kernel
theorem dX8_putReturning_38 : decode cX8_putReturning 38 = .ok (.iload_n 2, 1) := by decide +kernel
theorem dX8_putReturning_39 : decode cX8_putReturning 39 = .ok (.iload_n 3, 1) := by decide +kernel
theorem dX8_putReturning_40 : decode cX8_putReturning 40 = .ok (.iadd, 1) := by decide +kernel
theorem dX8_putReturning_41 : decode cX8_putReturning 41 = .ok (.invokevirtual 34, 3) := by decide +kernel
theorem dX8_putReturning_44 : decode cX8_putReturning 44 = .ok (.aload_n 0, 1) := by decide +kernel
theorem dX8_putReturning_45 : decode cX8_putReturning 45 = .ok (.bipush 41, 2) := by decide +kernel
theorem dX8_putReturning_47 : decode cX8_putReturning 47 = .ok (.invokevirtual 30, 3) := by decide +kernel
theorem dX8_putReturning_50 : decode cX8_putReturning 50 = .ok (.aload_n 0, 1) := by decide +kernel
theorem dX8_putReturning_51 : decode cX8_putReturning 51 = .ok (.bipush 93, 2) := by decide +kernel
theorem dX8_putReturning_53 : decode cX8_putReturning 53 = .ok (.invokevirtual 30, 3) := by decide +kernel
theorem dX8_putReturning_56 : decode cX8_putReturning 56 = .ok (.return_, 1) := by decide +kernel
theorem dX8_putTerms_0 : decode cX8_putTerms 0 = .ok (.iload_n 2, 1) := by decide +kernel
theorem dX8_putTerms_1 : decode cX8_putTerms 1 = .ok (.istore 4, 2) := by decide +kernel
theorem dX8_putTerms_3 : decode cX8_putTerms 3 = .ok (.iload 4, 2) := by decide +kernel
theorem dX8_putTerms_5 : decode cX8_putTerms 5 = .ok (.iload_n 3, 1) := by decide +kernel
theorem dX8_putTerms_6 : decode cX8_putTerms 6 = .ok (.if_icmp .ge 25, 3) := by decide +kernel
theorem dX8_putTerms_9 : decode cX8_putTerms 9 = .ok (.aload_n 0, 1) := by decide +kernel
theorem dX8_putTerms_10 : decode cX8_putTerms 10 = .ok (.iload 4, 2) := by decide +kernel
theorem dX8_putTerms_12 : decode cX8_putTerms 12 = .ok (.invokevirtual 41, 3) := by decide +kernel
theorem dX8_putTerms_15 : decode cX8_putTerms 15 = .ok (.aload_n 0, 1) := by decide +kernel
theorem dX8_putTerms_16 : decode cX8_putTerms 16 = .ok (.aload_n 1, 1) := by decide +kernel
theorem dX8_putTerms_17 : decode cX8_putTerms 17 = .ok (.iload 4, 2) := by decide +kernel
theorem dX8_putTerms_19 : decode cX8_putTerms 19 = .ok (.invokevirtual 45, 3) := by decide +kernel
theorem dX8_putTerms_22 : decode cX8_putTerms 22 = .ok (.invokevirtual 49, 3) := by decide +kernel
theorem dX8_putTerms_25 : decode cX8_putTerms 25 = .ok (.iinc 4 1, 3) := by decide +kernel
theorem dX8_putTerms_28 : decode cX8_putTerms 28 = .ok (.goto (-25), 3) := by decide +kernel
theorem dX8_putTerms_31 : decode cX8_putTerms 31 = .ok (.return_, 1) := by decide +kernel
theorem dX8_putMarkAhead_0 : decode cX8_putMarkAhead 0 = .ok (.iload_n 1, 1) := by decide +kernel
theorem dX8_putMarkAhead_1 : decode cX8_putMarkAhead 1 = .ok (.ifCond .le 19, 3) := by decide +kernel
theorem dX8_putMarkAhead_4 : decode cX8_putMarkAhead 4 = .ok (.aload_n 0, 1) := by decide +kernel
theorem dX8_putMarkAhead_5 : decode cX8_putMarkAhead 5 = .ok (.iload_n 1, 1) := by decide +kernel
theorem dX8_putMarkAhead_6 : decode cX8_putMarkAhead 6 = .ok (.iconst 1, 1) := by decide +kernel
theorem dX8_putMarkAhead_7 : decode cX8_putMarkAhead 7 = .ok (.if_icmp .ne 8, 3) := by decide +kernel
theorem dX8_putMarkAhead_10 : decode cX8_putMarkAhead 10 = .ok (.bipush 59, 2) := by decide +kernel
theorem dX8_putMarkAhead_12 : decode cX8_putMarkAhead 12 = .ok (.goto 5, 3) := by decide +kernel
theorem dX8_putMarkAhead_15 : decode cX8_putMarkAhead 15 = .ok (.bipush 44, 2) := by decide +kernel
theorem dX8_putMarkAhead_17 : decode cX8_putMarkAhead 17 = .ok (.invokevirtual 30, 3) := by decide +kernel
theorem dX8_putMarkAhead_20 : decode cX8_putMarkAhead 20 = .ok (.return_, 1) := by decide +kernel
theorem dX8_putNumber_0 : decode cX8_putNumber 0 = .ok (.iload_n 1, 1) := by decide +kernel
theorem dX8_putNumber_1 : decode cX8_putNumber 1 = .ok (.ifCond .ge 9, 3) := by decide +kernel
theorem dX8_putNumber_4 : decode cX8_putNumber 4 = .ok (.aload_n 0, 1) := by decide +kernel
theorem dX8_putNumber_5 : decode cX8_putNumber 5 = .ok (.bipush 45, 2) := by decide +kernel
theorem dX8_putNumber_7 : decode cX8_putNumber 7 = .ok (.invokevirtual 30, 3) := by decide +kernel
theorem dX8_putNumber_10 : decode cX8_putNumber 10 = .ok (.iload_n 1, 1) := by decide +kernel
theorem dX8_putNumber_11 : decode cX8_putNumber 11 = .ok (.invokestatic 52, 3) := by decide +kernel
theorem dX8_putNumber_14 : decode cX8_putNumber 14 = .ok (.istore_n 2, 1) := by decide +kernel
theorem dX8_putNumber_15 : decode cX8_putNumber 15 = .ok (.iconst 0, 1) := by decide +kernel
theorem dX8_putNumber_16 : decode cX8_putNumber 16 = .ok (.istore_n 3, 1) := by decide +kernel
theorem dX8_putNumber_17 : decode cX8_putNumber 17 = .ok (.ldc 55, 2) := by decide +kernel
theorem dX8_putNumber_19 : decode cX8_putNumber 19 = .ok (.istore 4, 2) := by decide +kernel
theorem dX8_putNumber_21 : decode cX8_putNumber 21 = .ok (.iload 4, 2) := by decide +kernel
theorem dX8_putNumber_23 : decode cX8_putNumber 23 = .ok (.ifCond .le 57, 3) := by decide +kernel
theorem dX8_putNumber_26 : decode cX8_putNumber 26 = .ok (.iload_n 2, 1) := by decide +kernel
theorem dX8_putNumber_27 : decode cX8_putNumber 27 = .ok (.iload 4, 2) := by decide +kernel
theorem dX8_putNumber_29 : decode cX8_putNumber 29 = .ok (.idiv, 1) := by decide +kernel
theorem dX8_putNumber_30 : decode cX8_putNumber 30 = .ok (.bipush 10, 2) := by decide +kernel
theorem dX8_putNumber_32 : decode cX8_putNumber 32 = .ok (.irem, 1) := by decide +kernel
theorem dX8_putNumber_33 : decode cX8_putNumber 33 = .ok (.istore 5, 2) := by decide +kernel
theorem dX8_putNumber_35 : decode cX8_putNumber 35 = .ok (.iload_n 3, 1) := by decide +kernel
theorem dX8_putNumber_36 : decode cX8_putNumber 36 = .ok (.ifCond .ne 14, 3) := by decide +kernel
theorem dX8_putNumber_39 : decode cX8_putNumber 39 = .ok (.iload 5, 2) := by decide +kernel
theorem dX8_putNumber_41 : decode cX8_putNumber 41 = .ok (.ifCond .ne 9, 3) := by decide +kernel
theorem dX8_putNumber_44 : decode cX8_putNumber 44 = .ok (.iload 4, 2) := by decide +kernel
theorem dX8_putNumber_46 : decode cX8_putNumber 46 = .ok (.iconst 1, 1) := by decide +kernel
theorem dX8_putNumber_47 : decode cX8_putNumber 47 = .ok (.if_icmp .ne 7, 3) := by decide +kernel
theorem dX8_putNumber_50 : decode cX8_putNumber 50 = .ok (.iconst 1, 1) := by decide +kernel
theorem dX8_putNumber_51 : decode cX8_putNumber 51 = .ok (.goto 4, 3) := by decide +kernel
theorem dX8_putNumber_54 : decode cX8_putNumber 54 = .ok (.iconst 0, 1) := by decide +kernel
theorem dX8_putNumber_55 : decode cX8_putNumber 55 = .ok (.istore_n 3, 1) := by decide +kernel
theorem dX8_putNumber_56 : decode cX8_putNumber 56 = .ok (.iload_n 3, 1) := by decide +kernel
theorem dX8_putNumber_57 : decode cX8_putNumber 57 = .ok (.ifCond .eq 13, 3) := by decide +kernel
theorem dX8_putNumber_60 : decode cX8_putNumber 60 = .ok (.aload_n 0, 1) := by decide +kernel
theorem dX8_putNumber_61 : decode cX8_putNumber 61 = .ok (.bipush 48, 2) := by decide +kernel
theorem dX8_putNumber_63 : decode cX8_putNumber 63 = .ok (.iload 5, 2) := by decide +kernel
theorem dX8_putNumber_65 : decode cX8_putNumber 65 = .ok (.iadd, 1) := by decide +kernel
theorem dX8_putNumber_66 : decode cX8_putNumber 66 = .ok (.i2c, 1) := by decide +kernel
theorem dX8_putNumber_67 : decode cX8_putNumber 67 = .ok (.invokevirtual 30, 3) := by decide +kernel
theorem dX8_putNumber_70 : decode cX8_putNumber 70 = .ok (.iload 4, 2) := by decide +kernel
theorem dX8_putNumber_72 : decode cX8_putNumber 72 = .ok (.bipush 10, 2) := by decide +kernel
theorem dX8_putNumber_74 : decode cX8_putNumber 74 = .ok (.idiv, 1) := by decide +kernel
theorem dX8_putNumber_75 : decode cX8_putNumber 75 = .ok (.istore 4, 2) := by decide +kernel
theorem dX8_putNumber_77 : decode cX8_putNumber 77 = .ok (.goto (-56), 3) := by decide +kernel
theorem dX8_putNumber_80 : decode cX8_putNumber 80 = .ok (.return_, 1) := by decide +kernel
theorem dX8_putSign_0 : decode cX8_putSign 0 = .ok (.aload_n 0, 1) := by decide +kernel
theorem dX8_putSign_1 : decode cX8_putSign 1 = .ok (.getfield 15, 3) := by decide +kernel
theorem dX8_putSign_4 : decode cX8_putSign 4 = .ok (.ifCond .lt 35, 3) := by decide +kernel
theorem dX8_putSign_7 : decode cX8_putSign 7 = .ok (.aload_n 0, 1) := by decide +kernel
theorem dX8_putSign_8 : decode cX8_putSign 8 = .ok (.getfield 15, 3) := by decide +kernel
theorem dX8_putSign_11 : decode cX8_putSign 11 = .ok (.aload_n 0, 1) := by decide +kernel
theorem dX8_putSign_12 : decode cX8_putSign 12 = .ok (.getfield 9, 3) := by decide +kernel
theorem dX8_putSign_15 : decode cX8_putSign 15 = .ok (.arraylength, 1) := by decide +kernel
theorem dX8_putSign_16 : decode cX8_putSign 16 = .ok (.if_icmp .ge 23, 3) := by decide +kernel
theorem dX8_putSign_19 : decode cX8_putSign 19 = .ok (.aload_n 0, 1) := by decide +kernel
theorem dX8_putSign_20 : decode cX8_putSign 20 = .ok (.getfield 9, 3) := by decide +kernel
theorem dX8_putSign_23 : decode cX8_putSign 23 = .ok (.aload_n 0, 1) := by decide +kernel
theorem dX8_putSign_24 : decode cX8_putSign 24 = .ok (.getfield 15, 3) := by decide +kernel
theorem dX8_putSign_27 : decode cX8_putSign 27 = .ok (.iload_n 1, 1) := by decide +kernel
theorem dX8_putSign_28 : decode cX8_putSign 28 = .ok (.iastore, 1) := by decide +kernel
theorem dX8_putSign_29 : decode cX8_putSign 29 = .ok (.aload_n 0, 1) := by decide +kernel
theorem dX8_putSign_30 : decode cX8_putSign 30 = .ok (.dup, 1) := by decide +kernel
theorem dX8_putSign_31 : decode cX8_putSign 31 = .ok (.getfield 15, 3) := by decide +kernel
theorem dX8_putSign_34 : decode cX8_putSign 34 = .ok (.iconst 1, 1) := by decide +kernel
theorem dX8_putSign_35 : decode cX8_putSign 35 = .ok (.iadd, 1) := by decide +kernel
theorem dX8_putSign_36 : decode cX8_putSign 36 = .ok (.putfield 15, 3) := by decide +kernel
theorem dX8_putSign_39 : decode cX8_putSign 39 = .ok (.return_, 1) := by decide +kernel
theorem dX9_init_0 : decode cX9_init 0 = .ok (.aload_n 0, 1) := by decide +kernel
theorem dX9_init_1 : decode cX9_init 1 = .ok (.invokespecial 1, 3) := by decide +kernel
theorem dX9_init_4 : decode cX9_init 4 = .ok (.return_, 1) := by decide +kernel
theorem dX9_start_0 : decode cX9_start 0 = .ok (.aload_n 0, 1) := by decide +kernel
theorem dX9_start_1 : decode cX9_start 1 = .ok (.lload_n 1, 1) := by decide +kernel
theorem dX9_start_2 : decode cX9_start 2 = .ok (.putfield 7, 3) := by decide +kernel
theorem dX9_start_5 : decode cX9_start 5 = .ok (.aload_n 0, 1) := by decide +kernel
theorem dX9_start_6 : decode cX9_start 6 = .ok (.lload_n 3, 1) := by decide +kernel
theorem dX9_start_7 : decode cX9_start 7 = .ok (.putfield 13, 3) := by decide +kernel
theorem dX9_start_10 : decode cX9_start 10 = .ok (.aload_n 0, 1) := by decide +kernel
theorem dX9_start_11 : decode cX9_start 11 = .ok (.lload 5, 2) := by decide +kernel
theorem dX9_start_13 : decode cX9_start 13 = .ok (.putfield 16, 3) := by decide +kernel
theorem dX9_start_16 : decode cX9_start 16 = .ok (.aload_n 0, 1) := by decide +kernel
theorem dX9_start_17 : decode cX9_start 17 = .ok (.getfield 16, 3) := by decide +kernel
theorem dX9_start_20 : decode cX9_start 20 = .ok (.lconst 0, 1) := by decide +kernel
theorem dX9_start_21 : decode cX9_start 21 = .ok (.lcmp, 1) := by decide +kernel
theorem dX9_start_22 : decode cX9_start 22 = .ok (.ifCond .eq 72, 3) := by decide +kernel
theorem dX9_start_25 : decode cX9_start 25 = .ok (.aload_n 0, 1) := by decide +kernel
theorem dX9_start_26 : decode cX9_start 26 = .ok (.getfield 13, 3) := by decide +kernel
theorem dX9_start_29 : decode cX9_start 29 = .ok (.aload_n 0, 1) := by decide +kernel
theorem dX9_start_30 : decode cX9_start 30 = .ok (.getfield 7, 3) := by decide +kernel
theorem dX9_start_33 : decode cX9_start 33 = .ok (.aload_n 0, 1) := by decide +kernel
theorem dX9_start_34 : decode cX9_start 34 = .ok (.getfield 7, 3) := by decide +kernel
theorem dX9_start_37 : decode cX9_start 37 = .ok (.lmul, 1) := by decide +kernel
theorem dX9_start_38 : decode cX9_start 38 = .ok (.lsub, 1) := by decide +kernel
theorem dX9_start_39 : decode cX9_start 39 = .ok (.aload_n 0, 1) := by decide +kernel
theorem dX9_start_40 : decode cX9_start 40 = .ok (.getfield 16, 3) := by decide +kernel
theorem dX9_start_43 : decode cX9_start 43 = .ok (.lrem, 1) := by decide +kernel
theorem dX9_start_44 : decode cX9_start 44 = .ok (.lconst 0, 1) := by decide +kernel
theorem dX9_start_45 : decode cX9_start 45 = .ok (.lcmp, 1) := by decide +kernel
theorem dX9_start_46 : decode cX9_start 46 = .ok (.ifCond .eq 48, 3) := by decide +kernel
theorem dX9_start_49 : decode cX9_start 49 = .ok (.aload_n 0, 1) := by decide +kernel
theorem dX9_start_50 : decode cX9_start 50 = .ok (.getfield 16, 3) := by decide +kernel
theorem dX9_start_53 : decode cX9_start 53 = .ok (.invokestatic 19, 3) := by decide +kernel
theorem dX9_start_56 : decode cX9_start 56 = .ok (.lstore 7, 2) := by decide +kernel
theorem dX9_start_58 : decode cX9_start 58 = .ok (.aload_n 0, 1) := by decide +kernel
theorem dX9_start_59 : decode cX9_start 59 = .ok (.dup, 1) := by decide +kernel
theorem dX9_start_60 : decode cX9_start 60 = .ok (.getfield 7, 3) := by decide +kernel
theorem dX9_start_63 : decode cX9_start 63 = .ok (.lload 7, 2) := by decide +kernel
theorem dX9_start_65 : decode cX9_start 65 = .ok (.lmul, 1) := by decide +kernel
theorem dX9_start_66 : decode cX9_start 66 = .ok (.putfield 7, 3) := by decide +kernel
theorem dX9_start_69 : decode cX9_start 69 = .ok (.aload_n 0, 1) := by decide +kernel
theorem dX9_start_70 : decode cX9_start 70 = .ok (.dup, 1) := by decide +kernel
theorem dX9_start_71 : decode cX9_start 71 = .ok (.getfield 13, 3) := by decide +kernel
theorem dX9_start_74 : decode cX9_start 74 = .ok (.lload 7, 2) := by decide +kernel
theorem dX9_start_76 : decode cX9_start 76 = .ok (.lload 7, 2) := by decide +kernel
theorem dX9_start_78 : decode cX9_start 78 = .ok (.lmul, 1) := by decide +kernel
theorem dX9_start_79 : decode cX9_start 79 = .ok (.lmul, 1) := by decide +kernel
theorem dX9_start_80 : decode cX9_start 80 = .ok (.putfield 13, 3) := by decide +kernel
theorem dX9_start_83 : decode cX9_start 83 = .ok (.aload_n 0, 1) := by decide +kernel
theorem dX9_start_84 : decode cX9_start 84 = .ok (.dup, 1) := by decide +kernel
theorem dX9_start_85 : decode cX9_start 85 = .ok (.getfield 16, 3) := by decide +kernel
theorem dX9_start_88 : decode cX9_start 88 = .ok (.lload 7, 2) := by decide +kernel
theorem dX9_start_90 : decode cX9_start 90 = .ok (.lmul, 1) := by decide +kernel
theorem dX9_start_91 : decode cX9_start 91 = .ok (.putfield 16, 3) := by decide +kernel
theorem dX9_start_94 : decode cX9_start 94 = .ok (.aload_n 0, 1) := by decide +kernel
theorem dX9_start_95 : decode cX9_start 95 = .ok (.aload_n 0, 1) := by decide +kernel
theorem dX9_start_96 : decode cX9_start 96 = .ok (.getfield 13, 3) := by decide +kernel
theorem dX9_start_99 : decode cX9_start 99 = .ok (.invokestatic 25, 3) := by decide +kernel
theorem dX9_start_102 : decode cX9_start 102 = .ok (.putfield 30, 3) := by decide +kernel
theorem dX9_start_105 : decode cX9_start 105 = .ok (.return_, 1) := by decide +kernel
theorem dX9_whole_0 : decode cX9_whole 0 = .ok (.aload_n 0, 1) := by decide +kernel
theorem dX9_whole_1 : decode cX9_whole 1 = .ok (.getfield 16, 3) := by decide +kernel
theorem dX9_whole_4 : decode cX9_whole 4 = .ok (.lconst 0, 1) := by decide +kernel
theorem dX9_whole_5 : decode cX9_whole 5 = .ok (.lcmp, 1) := by decide +kernel
theorem dX9_whole_6 : decode cX9_whole 6 = .ok (.ifCond .ne 5, 3) := by decide +kernel
theorem dX9_whole_9 : decode cX9_whole 9 = .ok (.lconst 0, 1) := by decide +kernel
theorem dX9_whole_10 : decode cX9_whole 10 = .ok (.lreturn, 1) := by decide +kernel
theorem dX9_whole_11 : decode cX9_whole 11 = .ok (.aload_n 0, 1) := by decide +kernel
theorem dX9_whole_12 : decode cX9_whole 12 = .ok (.getfield 16, 3) := by decide +kernel
theorem dX9_whole_15 : decode cX9_whole 15 = .ok (.lconst 0, 1) := by decide +kernel
theorem dX9_whole_16 : decode cX9_whole 16 = .ok (.lcmp, 1) := by decide +kernel
theorem dX9_whole_17 : decode cX9_whole 17 = .ok (.ifCond .le 15, 3) := by decide +kernel
theorem dX9_whole_20 : decode cX9_whole 20 = .ok (.aload_n 0, 1) := by decide +kernel
theorem dX9_whole_21 : decode cX9_whole 21 = .ok (.getfield 7, 3) := by decide +kernel
theorem dX9_whole_24 : decode cX9_whole 24 = .ok (.aload_n 0, 1) := by decide +kernel
theorem dX9_whole_25 : decode cX9_whole 25 = .ok (.getfield 30, 3) := by decide +kernel
theorem dX9_whole_28 : decode cX9_whole 28 = .ok (.ladd, 1) := by decide +kernel
theorem dX9_whole_29 : decode cX9_whole 29 = .ok (.goto 14, 3) := by decide +kernel
theorem dX9_whole_32 : decode cX9_whole 32 = .ok (.aload_n 0, 1) := by decide +kernel
theorem dX9_whole_33 : decode cX9_whole 33 = .ok (.getfield 7, 3) := by decide +kernel
theorem dX9_whole_36 : decode cX9_whole 36 = .ok (.aload_n 0, 1) := by decide +kernel
theorem dX9_whole_37 : decode cX9_whole 37 = .ok (.getfield 30, 3) := by decide +kernel
theorem dX9_whole_40 : decode cX9_whole 40 = .ok (.ladd, 1) := by decide +kernel
theorem dX9_whole_41 : decode cX9_whole 41 = .ok (.lconst 1, 1) := by decide +kernel
theorem dX9_whole_42 : decode cX9_whole 42 = .ok (.ladd, 1) := by decide +kernel
theorem dX9_whole_43 : decode cX9_whole 43 = .ok (.aload_n 0, 1) := by decide +kernel
theorem dX9_whole_44 : decode cX9_whole 44 = .ok (.getfield 16, 3) := by decide +kernel
theorem dX9_whole_47 : decode cX9_whole 47 = .ok (.invokestatic 33, 3) := by decide +kernel
theorem dX9_whole_50 : decode cX9_whole 50 = .ok (.lreturn, 1) := by decide +kernel
theorem dX9_leave_0 : decode cX9_leave 0 = .ok (.aload_n 0, 1) := by decide +kernel
theorem dX9_leave_1 : decode cX9_leave 1 = .ok (.getfield 16, 3) := by decide +kernel
theorem dX9_leave_4 : decode cX9_leave 4 = .ok (.lconst 0, 1) := by decide +kernel
theorem dX9_leave_5 : decode cX9_leave 5 = .ok (.lcmp, 1) := by decide +kernel
theorem dX9_leave_6 : decode cX9_leave 6 = .ok (.ifCond .ne 4, 3) := by decide +kernel
theorem dX9_leave_9 : decode cX9_leave 9 = .ok (.return_, 1) := by decide +kernel
theorem dX9_leave_10 : decode cX9_leave 10 = .ok (.aload_n 0, 1) := by decide +kernel
theorem dX9_leave_11 : decode cX9_leave 11 = .ok (.lload_n 1, 1) := by decide +kernel
theorem dX9_leave_12 : decode cX9_leave 12 = .ok (.aload_n 0, 1) := by decide +kernel
theorem dX9_leave_13 : decode cX9_leave 13 = .ok (.getfield 16, 3) := by decide +kernel
theorem dX9_leave_16 : decode cX9_leave 16 = .ok (.lmul, 1) := by decide +kernel
theorem dX9_leave_17 : decode cX9_leave 17 = .ok (.aload_n 0, 1) := by decide +kernel
theorem dX9_leave_18 : decode cX9_leave 18 = .ok (.getfield 7, 3) := by decide +kernel
theorem dX9_leave_21 : decode cX9_leave 21 = .ok (.lsub, 1) := by decide +kernel
theorem dX9_leave_22 : decode cX9_leave 22 = .ok (.putfield 7, 3) := by decide +kernel
theorem dX9_leave_25 : decode cX9_leave 25 = .ok (.aload_n 0, 1) := by decide +kernel
theorem dX9_leave_26 : decode cX9_leave 26 = .ok (.aload_n 0, 1) := by decide +kernel
theorem dX9_leave_27 : decode cX9_leave 27 = .ok (.getfield 13, 3) := by decide +kernel
theorem dX9_leave_30 : decode cX9_leave 30 = .ok (.aload_n 0, 1) := by decide +kernel
theorem dX9_leave_31 : decode cX9_leave 31 = .ok (.getfield 7, 3) := by decide +kernel
theorem dX9_leave_34 : decode cX9_leave 34 = .ok (.aload_n 0, 1) := by decide +kernel
theorem dX9_leave_35 : decode cX9_leave 35 = .ok (.getfield 7, 3) := by decide +kernel
theorem dX9_leave_38 : decode cX9_leave 38 = .ok (.lmul, 1) := by decide +kernel
theorem dX9_leave_39 : decode cX9_leave 39 = .ok (.lsub, 1) := by decide +kernel
theorem dX9_leave_40 : decode cX9_leave 40 = .ok (.aload_n 0, 1) := by decide +kernel
theorem dX9_leave_41 : decode cX9_leave 41 = .ok (.getfield 16, 3) := by decide +kernel
theorem dX9_leave_44 : decode cX9_leave 44 = .ok (.ldiv, 1) := by decide +kernel
theorem dX9_leave_45 : decode cX9_leave 45 = .ok (.putfield 16, 3) := by decide +kernel
theorem dX9_leave_48 : decode cX9_leave 48 = .ok (.return_, 1) := by decide +kernel
theorem dX10_init_0 : decode cX10_init 0 = .ok (.aload_n 0, 1) := by decide +kernel
theorem dX10_init_1 : decode cX10_init 1 = .ok (.invokespecial 3, 3) := by decide +kernel
theorem dX10_init_4 : decode cX10_init 4 = .ok (.aload_n 0, 1) := by decide +kernel
theorem dX10_init_5 : decode cX10_init 5 = .ok (.sipush 200, 3) := by decide +kernel
theorem dX10_init_8 : decode cX10_init 8 = .ok (.newarray .int, 2) := by decide +kernel
theorem dX10_init_10 : decode cX10_init 10 = .ok (.putfield 9, 3) := by decide +kernel
theorem dX10_init_13 : decode cX10_init 13 = .ok (.aload_n 0, 1) := by decide +kernel
theorem dX10_init_14 : decode cX10_init 14 = .ok (.sipush 201, 3) := by decide +kernel
theorem dX10_init_17 : decode cX10_init 17 = .ok (.newarray .int, 2) := by decide +kernel
theorem dX10_init_19 : decode cX10_init 19 = .ok (.putfield 15, 3) := by decide +kernel
theorem dX10_init_22 : decode cX10_init 22 = .ok (.aload_n 0, 1) := by decide +kernel
theorem dX10_init_23 : decode cX10_init 23 = .ok (.sipush 201, 3) := by decide +kernel
theorem dX10_init_26 : decode cX10_init 26 = .ok (.newarray .int, 2) := by decide +kernel
theorem dX10_init_28 : decode cX10_init 28 = .ok (.putfield 18, 3) := by decide +kernel
theorem dX10_init_31 : decode cX10_init 31 = .ok (.aload_n 0, 1) := by decide +kernel
theorem dX10_init_32 : decode cX10_init 32 = .ok (.sipush 201, 3) := by decide +kernel
theorem dX10_init_35 : decode cX10_init 35 = .ok (.newarray .int, 2) := by decide +kernel
theorem dX10_init_37 : decode cX10_init 37 = .ok (.putfield 21, 3) := by decide +kernel
theorem dX10_init_40 : decode cX10_init 40 = .ok (.aload_n 0, 1) := by decide +kernel
theorem dX10_init_41 : decode cX10_init 41 = .ok (.iconst (-1), 1) := by decide +kernel
theorem dX10_init_42 : decode cX10_init 42 = .ok (.putfield 24, 3) := by decide +kernel
theorem dX10_init_45 : decode cX10_init 45 = .ok (.return_, 1) := by decide +kernel
theorem dX10_addFour_0 : decode cX10_addFour 0 = .ok (.aload_n 0, 1) := by decide +kernel
theorem dX10_addFour_1 : decode cX10_addFour 1 = .ok (.iload_n 1, 1) := by decide +kernel
theorem dX10_addFour_2 : decode cX10_addFour 2 = .ok (.bipush 24, 2) := by decide +kernel
theorem dX10_addFour_4 : decode cX10_addFour 4 = .ok (.iushr, 1) := by decide +kernel
theorem dX10_addFour_5 : decode cX10_addFour 5 = .ok (.invokevirtual 28, 3) := by decide +kernel
theorem dX10_addFour_8 : decode cX10_addFour 8 = .ok (.aload_n 0, 1) := by decide +kernel
theorem dX10_addFour_9 : decode cX10_addFour 9 = .ok (.iload_n 1, 1) := by decide +kernel
theorem dX10_addFour_10 : decode cX10_addFour 10 = .ok (.bipush 16, 2) := by decide +kernel
theorem dX10_addFour_12 : decode cX10_addFour 12 = .ok (.iushr, 1) := by decide +kernel
theorem dX10_addFour_13 : decode cX10_addFour 13 = .ok (.invokevirtual 28, 3) := by decide +kernel
theorem dX10_addFour_16 : decode cX10_addFour 16 = .ok (.aload_n 0, 1) := by decide +kernel
theorem dX10_addFour_17 : decode cX10_addFour 17 = .ok (.iload_n 1, 1) := by decide +kernel
theorem dX10_addFour_18 : decode cX10_addFour 18 = .ok (.bipush 8, 2) := by decide +kernel
theorem dX10_addFour_20 : decode cX10_addFour 20 = .ok (.iushr, 1) := by decide +kernel
theorem dX10_addFour_21 : decode cX10_addFour 21 = .ok (.invokevirtual 28, 3) := by decide +kernel
theorem dX10_addFour_24 : decode cX10_addFour 24 = .ok (.aload_n 0, 1) := by decide +kernel
theorem dX10_addFour_25 : decode cX10_addFour 25 = .ok (.iload_n 1, 1) := by decide +kernel
theorem dX10_addFour_26 : decode cX10_addFour 26 = .ok (.invokevirtual 28, 3) := by decide +kernel
theorem dX10_addFour_29 : decode cX10_addFour 29 = .ok (.return_, 1) := by decide +kernel
theorem dX10_addByte_0 : decode cX10_addByte 0 = .ok (.aload_n 0, 1) := by decide +kernel
theorem dX10_addByte_1 : decode cX10_addByte 1 = .ok (.getfield 32, 3) := by decide +kernel
theorem dX10_addByte_4 : decode cX10_addByte 4 = .ok (.ifCond .lt 39, 3) := by decide +kernel
theorem dX10_addByte_7 : decode cX10_addByte 7 = .ok (.aload_n 0, 1) := by decide +kernel
theorem dX10_addByte_8 : decode cX10_addByte 8 = .ok (.getfield 32, 3) := by decide +kernel
theorem dX10_addByte_11 : decode cX10_addByte 11 = .ok (.aload_n 0, 1) := by decide +kernel
theorem dX10_addByte_12 : decode cX10_addByte 12 = .ok (.getfield 9, 3) := by decide +kernel
theorem dX10_addByte_15 : decode cX10_addByte 15 = .ok (.arraylength, 1) := by decide +kernel
theorem dX10_addByte_16 : decode cX10_addByte 16 = .ok (.if_icmp .ge 27, 3) := by decide +kernel
theorem dX10_addByte_19 : decode cX10_addByte 19 = .ok (.aload_n 0, 1) := by decide +kernel
theorem dX10_addByte_20 : decode cX10_addByte 20 = .ok (.getfield 9, 3) := by decide +kernel
theorem dX10_addByte_23 : decode cX10_addByte 23 = .ok (.aload_n 0, 1) := by decide +kernel
theorem dX10_addByte_24 : decode cX10_addByte 24 = .ok (.getfield 32, 3) := by decide +kernel
theorem dX10_addByte_27 : decode cX10_addByte 27 = .ok (.iload_n 1, 1) := by decide +kernel
theorem dX10_addByte_28 : decode cX10_addByte 28 = .ok (.sipush 255, 3) := by decide +kernel
theorem dX10_addByte_31 : decode cX10_addByte 31 = .ok (.iand, 1) := by decide +kernel
theorem dX10_addByte_32 : decode cX10_addByte 32 = .ok (.iastore, 1) := by decide +kernel
theorem dX10_addByte_33 : decode cX10_addByte 33 = .ok (.aload_n 0, 1) := by decide +kernel
theorem dX10_addByte_34 : decode cX10_addByte 34 = .ok (.dup, 1) := by decide +kernel
theorem dX10_addByte_35 : decode cX10_addByte 35 = .ok (.getfield 32, 3) := by decide +kernel
theorem dX10_addByte_38 : decode cX10_addByte 38 = .ok (.iconst 1, 1) := by decide +kernel
theorem dX10_addByte_39 : decode cX10_addByte 39 = .ok (.iadd, 1) := by decide +kernel
theorem dX10_addByte_40 : decode cX10_addByte 40 = .ok (.putfield 32, 3) := by decide +kernel
theorem dX10_addByte_43 : decode cX10_addByte 43 = .ok (.return_, 1) := by decide +kernel
theorem dX10_empty_0 : decode cX10_empty 0 = .ok (.aload_n 0, 1) := by decide +kernel
theorem dX10_empty_1 : decode cX10_empty 1 = .ok (.iconst 0, 1) := by decide +kernel
theorem dX10_empty_2 : decode cX10_empty 2 = .ok (.putfield 32, 3) := by decide +kernel
theorem dX10_empty_5 : decode cX10_empty 5 = .ok (.return_, 1) := by decide +kernel
theorem dX10_open_0 : decode cX10_open 0 = .ok (.aload_n 0, 1) := by decide +kernel
theorem dX10_open_1 : decode cX10_open 1 = .ok (.iconst 0, 1) := by decide +kernel
theorem dX10_open_2 : decode cX10_open 2 = .ok (.putfield 35, 3) := by decide +kernel
theorem dX10_open_5 : decode cX10_open 5 = .ok (.aload_n 0, 1) := by decide +kernel
theorem dX10_open_6 : decode cX10_open 6 = .ok (.iconst (-1), 1) := by decide +kernel
theorem dX10_open_7 : decode cX10_open 7 = .ok (.putfield 24, 3) := by decide +kernel
theorem dX10_open_10 : decode cX10_open 10 = .ok (.aload_n 0, 1) := by decide +kernel
theorem dX10_open_11 : decode cX10_open 11 = .ok (.iconst 0, 1) := by decide +kernel
theorem dX10_open_12 : decode cX10_open 12 = .ok (.putfield 38, 3) := by decide +kernel
theorem dX10_open_15 : decode cX10_open 15 = .ok (.aload_n 0, 1) := by decide +kernel
theorem dX10_open_16 : decode cX10_open 16 = .ok (.iconst 0, 1) := by decide +kernel
theorem dX10_open_17 : decode cX10_open 17 = .ok (.putfield 41, 3) := by decide +kernel
theorem dX10_open_20 : decode cX10_open 20 = .ok (.iconst 0, 1) := by decide +kernel
theorem dX10_open_21 : decode cX10_open 21 = .ok (.istore_n 2, 1) := by decide +kernel
theorem dX10_open_22 : decode cX10_open 22 = .ok (.iconst 0, 1) := by decide +kernel
theorem dX10_open_23 : decode cX10_open 23 = .ok (.istore_n 3, 1) := by decide +kernel
theorem dX10_open_24 : decode cX10_open 24 = .ok (.iload_n 3, 1) := by decide +kernel
theorem dX10_open_25 : decode cX10_open 25 = .ok (.sipush 200, 3) := by decide +kernel
theorem dX10_open_28 : decode cX10_open 28 = .ok (.if_icmp .ge 21, 3) := by decide +kernel
theorem dX10_open_31 : decode cX10_open 31 = .ok (.iload_n 2, 1) := by decide +kernel
theorem dX10_open_32 : decode cX10_open 32 = .ok (.iload_n 1, 1) := by decide +kernel
theorem dX10_open_33 : decode cX10_open 33 = .ok (.if_icmp .ge 16, 3) := by decide +kernel
theorem dX10_open_36 : decode cX10_open 36 = .ok (.aload_n 0, 1) := by decide +kernel
theorem dX10_open_37 : decode cX10_open 37 = .ok (.iload_n 2, 1) := by decide +kernel
theorem dX10_open_38 : decode cX10_open 38 = .ok (.iload_n 1, 1) := by decide +kernel
theorem dX10_open_39 : decode cX10_open 39 = .ok (.invokevirtual 44, 3) := by decide +kernel
theorem dX10_open_42 : decode cX10_open 42 = .ok (.istore_n 2, 1) := by decide +kernel
theorem dX10_open_43 : decode cX10_open 43 = .ok (.iinc 3 1, 3) := by decide +kernel
theorem dX10_open_46 : decode cX10_open 46 = .ok (.goto (-22), 3) := by decide +kernel
theorem dX10_open_49 : decode cX10_open 49 = .ok (.aload_n 0, 1) := by decide +kernel
theorem dX10_open_50 : decode cX10_open 50 = .ok (.sipush 257, 3) := by decide +kernel
theorem dX10_open_53 : decode cX10_open 53 = .ok (.iconst 0, 1) := by decide +kernel
theorem dX10_open_54 : decode cX10_open 54 = .ok (.iload_n 1, 1) := by decide +kernel
theorem dX10_open_55 : decode cX10_open 55 = .ok (.invokevirtual 48, 3) := by decide +kernel
theorem dX10_open_58 : decode cX10_open 58 = .ok (.return_, 1) := by decide +kernel
theorem dX10_scanNext_0 : decode cX10_scanNext 0 = .ok (.aload_n 0, 1) := by decide +kernel
theorem dX10_scanNext_1 : decode cX10_scanNext 1 = .ok (.iload_n 1, 1) := by decide +kernel
theorem dX10_scanNext_2 : decode cX10_scanNext 2 = .ok (.invokevirtual 52, 3) := by decide +kernel
theorem dX10_scanNext_5 : decode cX10_scanNext 5 = .ok (.istore_n 3, 1) := by decide +kernel
theorem dX10_scanNext_6 : decode cX10_scanNext 6 = .ok (.iload_n 3, 1) := by decide +kernel
theorem dX10_scanNext_7 : decode cX10_scanNext 7 = .ok (.invokestatic 56, 3) := by decide +kernel
theorem dX10_scanNext_10 : decode cX10_scanNext 10 = .ok (.ifCond .eq 10, 3) := by decide +kernel
theorem dX10_scanNext_13 : decode cX10_scanNext 13 = .ok (.aload_n 0, 1) := by decide +kernel
theorem dX10_scanNext_14 : decode cX10_scanNext 14 = .ok (.iload_n 1, 1) := by decide +kernel
theorem dX10_scanNext_15 : decode cX10_scanNext 15 = .ok (.iload_n 2, 1) := by decide +kernel
theorem dX10_scanNext_16 : decode cX10_scanNext 16 = .ok (.invokevirtual 60, 3) := by decide +kernel
theorem dX10_scanNext_19 : decode cX10_scanNext 19 = .ok (.ireturn, 1) := by decide +kernel
theorem dX10_scanNext_20 : decode cX10_scanNext 20 = .ok (.iload_n 3, 1) := by decide +kernel
theorem dX10_scanNext_21 : decode cX10_scanNext 21 = .ok (.invokestatic 63, 3) := by decide +kernel
theorem dX10_scanNext_24 : decode cX10_scanNext 24 = .ok (.ifCond .eq 10, 3) := by decide +kernel
theorem dX10_scanNext_27 : decode cX10_scanNext 27 = .ok (.aload_n 0, 1) := by decide +kernel
theorem dX10_scanNext_28 : decode cX10_scanNext 28 = .ok (.iload_n 1, 1) := by decide +kernel
theorem dX10_scanNext_29 : decode cX10_scanNext 29 = .ok (.iload_n 2, 1) := by decide +kernel
theorem dX10_scanNext_30 : decode cX10_scanNext 30 = .ok (.invokevirtual 66, 3) := by decide +kernel
theorem dX10_scanNext_33 : decode cX10_scanNext 33 = .ok (.ireturn, 1) := by decide +kernel
theorem dX10_scanNext_34 : decode cX10_scanNext 34 = .ok (.iload_n 3, 1) := by decide +kernel
theorem dX10_scanNext_35 : decode cX10_scanNext 35 = .ok (.bipush 32, 2) := by decide +kernel
theorem dX10_scanNext_37 : decode cX10_scanNext 37 = .ok (.if_icmp .eq 16, 3) := by decide +kernel
theorem dX10_scanNext_40 : decode cX10_scanNext 40 = .ok (.iload_n 3, 1) := by decide +kernel
theorem dX10_scanNext_41 : decode cX10_scanNext 41 = .ok (.bipush 10, 2) := by decide +kernel
theorem dX10_scanNext_43 : decode cX10_scanNext 43 = .ok (.if_icmp .eq 10, 3) := by decide +kernel
theorem dX10_scanNext_46 : decode cX10_scanNext 46 = .ok (.aload_n 0, 1) := by decide +kernel
theorem dX10_scanNext_47 : decode cX10_scanNext 47 = .ok (.iload_n 3, 1) := by decide +kernel
theorem dX10_scanNext_48 : decode cX10_scanNext 48 = .ok (.iconst 0, 1) := by decide +kernel
theorem dX10_scanNext_49 : decode cX10_scanNext 49 = .ok (.iload_n 1, 1) := by decide +kernel
theorem dX10_scanNext_50 : decode cX10_scanNext 50 = .ok (.invokevirtual 48, 3) := by decide +kernel
theorem dX10_scanNext_53 : decode cX10_scanNext 53 = .ok (.iload_n 1, 1) := by decide +kernel
theorem dX10_scanNext_54 : decode cX10_scanNext 54 = .ok (.iconst 1, 1) := by decide +kernel
theorem dX10_scanNext_55 : decode cX10_scanNext 55 = .ok (.iadd, 1) := by decide +kernel
theorem dX10_scanNext_56 : decode cX10_scanNext 56 = .ok (.ireturn, 1) := by decide +kernel
theorem dX10_scanFigures_0 : decode cX10_scanFigures 0 = .ok (.aload_n 0, 1) := by decide +kernel
theorem dX10_scanFigures_1 : decode cX10_scanFigures 1 = .ok (.iload_n 1, 1) := by decide +kernel
theorem dX10_scanFigures_2 : decode cX10_scanFigures 2 = .ok (.invokevirtual 52, 3) := by decide +kernel
theorem dX10_scanFigures_5 : decode cX10_scanFigures 5 = .ok (.bipush 48, 2) := by decide +kernel
theorem dX10_scanFigures_7 : decode cX10_scanFigures 7 = .ok (.isub, 1) := by decide +kernel
theorem dX10_scanFigures_8 : decode cX10_scanFigures 8 = .ok (.istore_n 3, 1) := by decide +kernel
theorem dX10_scanFigures_9 : decode cX10_scanFigures 9 = .ok (.iload_n 1, 1) := by decide +kernel
theorem dX10_scanFigures_10 : decode cX10_scanFigures 10 = .ok (.iconst 1, 1) := by decide +kernel
theorem dX10_scanFigures_11 : decode cX10_scanFigures 11 = .ok (.iadd, 1) := by decide +kernel
theorem dX10_scanFigures_12 : decode cX10_scanFigures 12 = .ok (.istore 4, 2) := by decide +kernel
theorem dX10_scanFigures_14 : decode cX10_scanFigures 14 = .ok (.iload 4, 2) := by decide +kernel
theorem dX10_scanFigures_16 : decode cX10_scanFigures 16 = .ok (.iload_n 2, 1) := by decide +kernel
theorem dX10_scanFigures_17 : decode cX10_scanFigures 17 = .ok (.if_icmp .ge 42, 3) := by decide +kernel
theorem dX10_scanFigures_20 : decode cX10_scanFigures 20 = .ok (.aload_n 0, 1) := by decide +kernel
theorem dX10_scanFigures_21 : decode cX10_scanFigures 21 = .ok (.iload 4, 2) := by decide +kernel
theorem dX10_scanFigures_23 : decode cX10_scanFigures 23 = .ok (.invokevirtual 52, 3) := by decide +kernel
theorem dX10_scanFigures_26 : decode cX10_scanFigures 26 = .ok (.invokestatic 56, 3) := by decide +kernel
theorem dX10_scanFigures_29 : decode cX10_scanFigures 29 = .ok (.ifCond .eq 30, 3) := by decide +kernel
theorem dX10_scanFigures_32 : decode cX10_scanFigures 32 = .ok (.iload_n 3, 1) := by decide +kernel
theorem dX10_scanFigures_33 : decode cX10_scanFigures 33 = .ok (.bipush 10, 2) := by decide +kernel
theorem dX10_scanFigures_35 : decode cX10_scanFigures 35 = .ok (.imul, 1) := by decide +kernel
theorem dX10_scanFigures_36 : decode cX10_scanFigures 36 = .ok (.aload_n 0, 1) := by decide +kernel
theorem dX10_scanFigures_37 : decode cX10_scanFigures 37 = .ok (.iload 4, 2) := by decide +kernel
theorem dX10_scanFigures_39 : decode cX10_scanFigures 39 = .ok (.invokevirtual 52, 3) := by decide +kernel
theorem dX10_scanFigures_42 : decode cX10_scanFigures 42 = .ok (.iadd, 1) := by decide +kernel
theorem dX10_scanFigures_43 : decode cX10_scanFigures 43 = .ok (.bipush 48, 2) := by decide +kernel
theorem dX10_scanFigures_45 : decode cX10_scanFigures 45 = .ok (.isub, 1) := by decide +kernel
theorem dX10_scanFigures_46 : decode cX10_scanFigures 46 = .ok (.sipush 10000, 3) := by decide +kernel
theorem dX10_scanFigures_49 : decode cX10_scanFigures 49 = .ok (.invokestatic 69, 3) := by decide +kernel
theorem dX10_scanFigures_52 : decode cX10_scanFigures 52 = .ok (.istore_n 3, 1) := by decide +kernel
theorem dX10_scanFigures_53 : decode cX10_scanFigures 53 = .ok (.iinc 4 1, 3) := by decide +kernel
theorem dX10_scanFigures_56 : decode cX10_scanFigures 56 = .ok (.goto (-42), 3) := by decide +kernel
theorem dX10_scanFigures_59 : decode cX10_scanFigures 59 = .ok (.aload_n 0, 1) := by decide +kernel
theorem dX10_scanFigures_60 : decode cX10_scanFigures 60 = .ok (.sipush 256, 3) := by decide +kernel
theorem dX10_scanFigures_63 : decode cX10_scanFigures 63 = .ok (.iload_n 3, 1) := by decide +kernel
theorem dX10_scanFigures_64 : decode cX10_scanFigures 64 = .ok (.iload_n 1, 1) := by decide +kernel
theorem dX10_scanFigures_65 : decode cX10_scanFigures 65 = .ok (.invokevirtual 48, 3) := by decide +kernel
theorem dX10_scanFigures_68 : decode cX10_scanFigures 68 = .ok (.iload 4, 2) := by decide +kernel
theorem dX10_scanFigures_70 : decode cX10_scanFigures 70 = .ok (.ireturn, 1) := by decide +kernel
theorem dX10_scanWord_0 : decode cX10_scanWord 0 = .ok (.iload_n 1, 1) := by decide +kernel
theorem dX10_scanWord_1 : decode cX10_scanWord 1 = .ok (.iconst 1, 1) := by decide +kernel
theorem dX10_scanWord_2 : decode cX10_scanWord 2 = .ok (.iadd, 1) := by decide +kernel
theorem dX10_scanWord_3 : decode cX10_scanWord 3 = .ok (.istore_n 3, 1) := by decide +kernel
theorem dX10_scanWord_4 : decode cX10_scanWord 4 = .ok (.iload_n 3, 1) := by decide +kernel
theorem dX10_scanWord_5 : decode cX10_scanWord 5 = .ok (.iload_n 2, 1) := by decide +kernel
theorem dX10_scanWord_6 : decode cX10_scanWord 6 = .ok (.if_icmp .ge 20, 3) := by decide +kernel
theorem dX10_scanWord_9 : decode cX10_scanWord 9 = .ok (.aload_n 0, 1) := by decide +kernel
theorem dX10_scanWord_10 : decode cX10_scanWord 10 = .ok (.iload_n 3, 1) := by decide +kernel
theorem dX10_scanWord_11 : decode cX10_scanWord 11 = .ok (.invokevirtual 52, 3) := by decide +kernel
theorem dX10_scanWord_14 : decode cX10_scanWord 14 = .ok (.invokestatic 63, 3) := by decide +kernel
theorem dX10_scanWord_17 : decode cX10_scanWord 17 = .ok (.ifCond .eq 9, 3) := by decide +kernel
theorem dX10_scanWord_20 : decode cX10_scanWord 20 = .ok (.iinc 3 1, 3) := by decide +kernel
theorem dX10_scanWord_23 : decode cX10_scanWord 23 = .ok (.goto (-19), 3) := by decide +kernel
theorem dX10_scanWord_26 : decode cX10_scanWord 26 = .ok (.aload_n 0, 1) := by decide +kernel
theorem dX10_scanWord_27 : decode cX10_scanWord 27 = .ok (.aload_n 0, 1) := by decide +kernel
theorem dX10_scanWord_28 : decode cX10_scanWord 28 = .ok (.iload_n 1, 1) := by decide +kernel
theorem dX10_scanWord_29 : decode cX10_scanWord 29 = .ok (.iload_n 3, 1) := by decide +kernel
theorem dX10_scanWord_30 : decode cX10_scanWord 30 = .ok (.invokevirtual 74, 3) := by decide +kernel
theorem dX10_scanWord_33 : decode cX10_scanWord 33 = .ok (.iconst 0, 1) := by decide +kernel
theorem dX10_scanWord_34 : decode cX10_scanWord 34 = .ok (.iload_n 1, 1) := by decide +kernel
theorem dX10_scanWord_35 : decode cX10_scanWord 35 = .ok (.invokevirtual 48, 3) := by decide +kernel
theorem dX10_scanWord_38 : decode cX10_scanWord 38 = .ok (.iload_n 3, 1) := by decide +kernel
theorem dX10_scanWord_39 : decode cX10_scanWord 39 = .ok (.ireturn, 1) := by decide +kernel
theorem dX10_wordCode_0 : decode cX10_wordCode 0 = .ok (.aload_n 0, 1) := by decide +kernel
theorem dX10_wordCode_1 : decode cX10_wordCode 1 = .ok (.ldc 77, 2) := by decide +kernel
theorem dX10_wordCode_3 : decode cX10_wordCode 3 = .ok (.iload_n 1, 1) := by decide +kernel
theorem dX10_wordCode_4 : decode cX10_wordCode 4 = .ok (.iload_n 2, 1) := by decide +kernel
theorem dX10_wordCode_5 : decode cX10_wordCode 5 = .ok (.invokevirtual 79, 3) := by decide +kernel
theorem dX10_wordCode_8 : decode cX10_wordCode 8 = .ok (.ifCond .eq 7, 3) := by decide +kernel
theorem dX10_wordCode_11 : decode cX10_wordCode 11 = .ok (.sipush 258, 3) := by decide +kernel
theorem dX10_wordCode_14 : decode cX10_wordCode 14 = .ok (.ireturn, 1) := by decide +kernel
theorem dX10_wordCode_15 : decode cX10_wordCode 15 = .ok (.aload_n 0, 1) := by decide +kernel
theorem dX10_wordCode_16 : decode cX10_wordCode 16 = .ok (.ldc 83, 2) := by decide +kernel
theorem dX10_wordCode_18 : decode cX10_wordCode 18 = .ok (.iload_n 1, 1) := by decide +kernel
theorem dX10_wordCode_19 : decode cX10_wordCode 19 = .ok (.iload_n 2, 1) := by decide +kernel
theorem dX10_wordCode_20 : decode cX10_wordCode 20 = .ok (.invokevirtual 79, 3) := by decide +kernel
theorem dX10_wordCode_23 : decode cX10_wordCode 23 = .ok (.ifCond .eq 7, 3) := by decide +kernel
theorem dX10_wordCode_26 : decode cX10_wordCode 26 = .ok (.sipush 259, 3) := by decide +kernel
theorem dX10_wordCode_29 : decode cX10_wordCode 29 = .ok (.ireturn, 1) := by decide +kernel
theorem dX10_wordCode_30 : decode cX10_wordCode 30 = .ok (.aload_n 0, 1) := by decide +kernel
theorem dX10_wordCode_31 : decode cX10_wordCode 31 = .ok (.ldc 85, 2) := by decide +kernel
theorem dX10_wordCode_33 : decode cX10_wordCode 33 = .ok (.iload_n 1, 1) := by decide +kernel
theorem dX10_wordCode_34 : decode cX10_wordCode 34 = .ok (.iload_n 2, 1) := by decide +kernel
theorem dX10_wordCode_35 : decode cX10_wordCode 35 = .ok (.invokevirtual 79, 3) := by decide +kernel
theorem dX10_wordCode_38 : decode cX10_wordCode 38 = .ok (.ifCond .eq 7, 3) := by decide +kernel
theorem dX10_wordCode_41 : decode cX10_wordCode 41 = .ok (.sipush 260, 3) := by decide +kernel
theorem dX10_wordCode_44 : decode cX10_wordCode 44 = .ok (.ireturn, 1) := by decide +kernel
theorem dX10_wordCode_45 : decode cX10_wordCode 45 = .ok (.aload_n 0, 1) := by decide +kernel
theorem dX10_wordCode_46 : decode cX10_wordCode 46 = .ok (.ldc 87, 2) := by decide +kernel
theorem dX10_wordCode_48 : decode cX10_wordCode 48 = .ok (.iload_n 1, 1) := by decide +kernel
theorem dX10_wordCode_49 : decode cX10_wordCode 49 = .ok (.iload_n 2, 1) := by decide +kernel
theorem dX10_wordCode_50 : decode cX10_wordCode 50 = .ok (.invokevirtual 79, 3) := by decide +kernel
theorem dX10_wordCode_53 : decode cX10_wordCode 53 = .ok (.ifCond .eq 7, 3) := by decide +kernel
theorem dX10_wordCode_56 : decode cX10_wordCode 56 = .ok (.sipush 261, 3) := by decide +kernel
theorem dX10_wordCode_59 : decode cX10_wordCode 59 = .ok (.ireturn, 1) := by decide +kernel
theorem dX10_wordCode_60 : decode cX10_wordCode 60 = .ok (.aload_n 0, 1) := by decide +kernel
theorem dX10_wordCode_61 : decode cX10_wordCode 61 = .ok (.ldc 89, 2) := by decide +kernel
theorem dX10_wordCode_63 : decode cX10_wordCode 63 = .ok (.iload_n 1, 1) := by decide +kernel
theorem dX10_wordCode_64 : decode cX10_wordCode 64 = .ok (.iload_n 2, 1) := by decide +kernel
theorem dX10_wordCode_65 : decode cX10_wordCode 65 = .ok (.invokevirtual 79, 3) := by decide +kernel
theorem dX10_wordCode_68 : decode cX10_wordCode 68 = .ok (.ifCond .eq 7, 3) := by decide +kernel
theorem dX10_wordCode_71 : decode cX10_wordCode 71 = .ok (.sipush 262, 3) := by decide +kernel
theorem dX10_wordCode_74 : decode cX10_wordCode 74 = .ok (.ireturn, 1) := by decide +kernel
theorem dX10_wordCode_75 : decode cX10_wordCode 75 = .ok (.aload_n 0, 1) := by decide +kernel
theorem dX10_wordCode_76 : decode cX10_wordCode 76 = .ok (.ldc 91, 2) := by decide +kernel
theorem dX10_wordCode_78 : decode cX10_wordCode 78 = .ok (.iload_n 1, 1) := by decide +kernel
theorem dX10_wordCode_79 : decode cX10_wordCode 79 = .ok (.iload_n 2, 1) := by decide +kernel
theorem dX10_wordCode_80 : decode cX10_wordCode 80 = .ok (.invokevirtual 79, 3) := by decide +kernel
theorem dX10_wordCode_83 : decode cX10_wordCode 83 = .ok (.ifCond .eq 7, 3) := by decide +kernel
theorem dX10_wordCode_86 : decode cX10_wordCode 86 = .ok (.sipush 263, 3) := by decide +kernel
theorem dX10_wordCode_89 : decode cX10_wordCode 89 = .ok (.ireturn, 1) := by decide +kernel
theorem dX10_wordCode_90 : decode cX10_wordCode 90 = .ok (.aload_n 0, 1) := by decide +kernel
theorem dX10_wordCode_91 : decode cX10_wordCode 91 = .ok (.ldc 93, 2) := by decide +kernel
theorem dX10_wordCode_93 : decode cX10_wordCode 93 = .ok (.iload_n 1, 1) := by decide +kernel
theorem dX10_wordCode_94 : decode cX10_wordCode 94 = .ok (.iload_n 2, 1) := by decide +kernel
theorem dX10_wordCode_95 : decode cX10_wordCode 95 = .ok (.invokevirtual 79, 3) := by decide +kernel
theorem dX10_wordCode_98 : decode cX10_wordCode 98 = .ok (.ifCond .eq 7, 3) := by decide +kernel
theorem dX10_wordCode_101 : decode cX10_wordCode 101 = .ok (.sipush 264, 3) := by decide +kernel
theorem dX10_wordCode_104 : decode cX10_wordCode 104 = .ok (.ireturn, 1) := by decide +kernel
theorem dX10_wordCode_105 : decode cX10_wordCode 105 = .ok (.aload_n 0, 1) := by decide +kernel
theorem dX10_wordCode_106 : decode cX10_wordCode 106 = .ok (.ldc 95, 2) := by decide +kernel
theorem dX10_wordCode_108 : decode cX10_wordCode 108 = .ok (.iload_n 1, 1) := by decide +kernel
theorem dX10_wordCode_109 : decode cX10_wordCode 109 = .ok (.iload_n 2, 1) := by decide +kernel
theorem dX10_wordCode_110 : decode cX10_wordCode 110 = .ok (.invokevirtual 79, 3) := by decide +kernel
theorem dX10_wordCode_113 : decode cX10_wordCode 113 = .ok (.ifCond .eq 7, 3) := by decide +kernel
theorem dX10_wordCode_116 : decode cX10_wordCode 116 = .ok (.sipush 265, 3) := by decide +kernel
theorem dX10_wordCode_119 : decode cX10_wordCode 119 = .ok (.ireturn, 1) := by decide +kernel
theorem dX10_wordCode_120 : decode cX10_wordCode 120 = .ok (.aload_n 0, 1) := by decide +kernel
theorem dX10_wordCode_121 : decode cX10_wordCode 121 = .ok (.ldc 97, 2) := by decide +kernel
theorem dX10_wordCode_123 : decode cX10_wordCode 123 = .ok (.iload_n 1, 1) := by decide +kernel
theorem dX10_wordCode_124 : decode cX10_wordCode 124 = .ok (.iload_n 2, 1) := by decide +kernel
theorem dX10_wordCode_125 : decode cX10_wordCode 125 = .ok (.invokevirtual 79, 3) := by decide +kernel
theorem dX10_wordCode_128 : decode cX10_wordCode 128 = .ok (.ifCond .eq 7, 3) := by decide +kernel
theorem dX10_wordCode_131 : decode cX10_wordCode 131 = .ok (.sipush 266, 3) := by decide +kernel
theorem dX10_wordCode_134 : decode cX10_wordCode 134 = .ok (.ireturn, 1) := by decide +kernel
theorem dX10_wordCode_135 : decode cX10_wordCode 135 = .ok (.aload_n 0, 1) := by decide +kernel
theorem dX10_wordCode_136 : decode cX10_wordCode 136 = .ok (.ldc 99, 2) := by decide +kernel
theorem dX10_wordCode_138 : decode cX10_wordCode 138 = .ok (.iload_n 1, 1) := by decide +kernel
theorem dX10_wordCode_139 : decode cX10_wordCode 139 = .ok (.iload_n 2, 1) := by decide +kernel
theorem dX10_wordCode_140 : decode cX10_wordCode 140 = .ok (.invokevirtual 79, 3) := by decide +kernel
theorem dX10_wordCode_143 : decode cX10_wordCode 143 = .ok (.ifCond .eq 7, 3) := by decide +kernel
theorem dX10_wordCode_146 : decode cX10_wordCode 146 = .ok (.sipush 267, 3) := by decide +kernel
theorem dX10_wordCode_149 : decode cX10_wordCode 149 = .ok (.ireturn, 1) := by decide +kernel
theorem dX10_wordCode_150 : decode cX10_wordCode 150 = .ok (.sipush 268, 3) := by decide +kernel
theorem dX10_wordCode_153 : decode cX10_wordCode 153 = .ok (.ireturn, 1) := by decide +kernel
theorem dX10_spells_0 : decode cX10_spells 0 = .ok (.iload_n 3, 1) := by decide +kernel
theorem dX10_spells_1 : decode cX10_spells 1 = .ok (.iload_n 2, 1) := by decide +kernel
theorem dX10_spells_2 : decode cX10_spells 2 = .ok (.isub, 1) := by decide +kernel
theorem dX10_spells_3 : decode cX10_spells 3 = .ok (.aload_n 1, 1) := by decide +kernel
theorem dX10_spells_4 : decode cX10_spells 4 = .ok (.invokevirtual 101, 3) := by decide +kernel
theorem dX10_spells_7 : decode cX10_spells 7 = .ok (.if_icmp .eq 5, 3) := by decide +kernel
theorem dX10_spells_10 : decode cX10_spells 10 = .ok (.iconst 0, 1) := by decide +kernel
theorem dX10_spells_11 : decode cX10_spells 11 = .ok (.ireturn, 1) := by decide +kernel
theorem dX10_spells_12 : decode cX10_spells 12 = .ok (.iconst 0, 1) := by decide +kernel
theorem dX10_spells_13 : decode cX10_spells 13 = .ok (.istore 4, 2) := by decide +kernel
theorem dX10_spells_15 : decode cX10_spells 15 = .ok (.iload 4, 2) := by decide +kernel
theorem dX10_spells_17 : decode cX10_spells 17 = .ok (.aload_n 1, 1) := by decide +kernel
theorem dX10_spells_18 : decode cX10_spells 18 = .ok (.invokevirtual 101, 3) := by decide +kernel
theorem dX10_spells_21 : decode cX10_spells 21 = .ok (.if_icmp .ge 28, 3) := by decide +kernel
theorem dX10_spells_24 : decode cX10_spells 24 = .ok (.aload_n 0, 1) := by decide +kernel
theorem dX10_spells_25 : decode cX10_spells 25 = .ok (.iload_n 2, 1) := by decide +kernel
theorem dX10_spells_26 : decode cX10_spells 26 = .ok (.iload 4, 2) := by decide +kernel
theorem dX10_spells_28 : decode cX10_spells 28 = .ok (.iadd, 1) := by decide +kernel
theorem dX10_spells_29 : decode cX10_spells 29 = .ok (.invokevirtual 52, 3) := by decide +kernel
theorem dX10_spells_32 : decode cX10_spells 32 = .ok (.aload_n 1, 1) := by decide +kernel
theorem dX10_spells_33 : decode cX10_spells 33 = .ok (.iload 4, 2) := by decide +kernel
theorem dX10_spells_35 : decode cX10_spells 35 = .ok (.invokevirtual 107, 3) := by decide +kernel
theorem dX10_spells_38 : decode cX10_spells 38 = .ok (.if_icmp .eq 5, 3) := by decide +kernel
theorem dX10_spells_41 : decode cX10_spells 41 = .ok (.iconst 0, 1) := by decide +kernel
theorem dX10_spells_42 : decode cX10_spells 42 = .ok (.ireturn, 1) := by decide +kernel
theorem dX10_spells_43 : decode cX10_spells 43 = .ok (.iinc 4 1, 3) := by decide +kernel
theorem dX10_spells_46 : decode cX10_spells 46 = .ok (.goto (-31), 3) := by decide +kernel
theorem dX10_spells_49 : decode cX10_spells 49 = .ok (.iconst 1, 1) := by decide +kernel
theorem dX10_spells_50 : decode cX10_spells 50 = .ok (.ireturn, 1) := by decide +kernel
theorem dX10_byteAt_0 : decode cX10_byteAt 0 = .ok (.iload_n 1, 1) := by decide +kernel
theorem dX10_byteAt_1 : decode cX10_byteAt 1 = .ok (.ifCond .lt 21, 3) := by decide +kernel
theorem dX10_byteAt_4 : decode cX10_byteAt 4 = .ok (.iload_n 1, 1) := by decide +kernel
theorem dX10_byteAt_5 : decode cX10_byteAt 5 = .ok (.aload_n 0, 1) := by decide +kernel
theorem dX10_byteAt_6 : decode cX10_byteAt 6 = .ok (.getfield 9, 3) := by decide +kernel
theorem dX10_byteAt_9 : decode cX10_byteAt 9 = .ok (.arraylength, 1) := by decide +kernel
theorem dX10_byteAt_10 : decode cX10_byteAt 10 = .ok (.if_icmp .ge 12, 3) := by decide +kernel
theorem dX10_byteAt_13 : decode cX10_byteAt 13 = .ok (.aload_n 0, 1) := by decide +kernel
theorem dX10_byteAt_14 : decode cX10_byteAt 14 = .ok (.getfield 9, 3) := by decide +kernel
theorem dX10_byteAt_17 : decode cX10_byteAt 17 = .ok (.iload_n 1, 1) := by decide +kernel
theorem dX10_byteAt_18 : decode cX10_byteAt 18 = .ok (.iaload, 1) := by decide +kernel
theorem dX10_byteAt_19 : decode cX10_byteAt 19 = .ok (.goto 4, 3) := by decide +kernel
theorem dX10_byteAt_22 : decode cX10_byteAt 22 = .ok (.iconst (-1), 1) := by decide +kernel
theorem dX10_byteAt_23 : decode cX10_byteAt 23 = .ok (.ireturn, 1) := by decide +kernel
theorem dX10_isFigure_0 : decode cX10_isFigure 0 = .ok (.iload_n 0, 1) := by decide +kernel
theorem dX10_isFigure_1 : decode cX10_isFigure 1 = .ok (.bipush 48, 2) := by decide +kernel
theorem dX10_isFigure_3 : decode cX10_isFigure 3 = .ok (.if_icmp .lt 13, 3) := by decide +kernel
theorem dX10_isFigure_6 : decode cX10_isFigure 6 = .ok (.iload_n 0, 1) := by decide +kernel
theorem dX10_isFigure_7 : decode cX10_isFigure 7 = .ok (.bipush 57, 2) := by decide +kernel
theorem dX10_isFigure_9 : decode cX10_isFigure 9 = .ok (.if_icmp .gt 7, 3) := by decide +kernel
theorem dX10_isFigure_12 : decode cX10_isFigure 12 = .ok (.iconst 1, 1) := by decide +kernel
theorem dX10_isFigure_13 : decode cX10_isFigure 13 = .ok (.goto 4, 3) := by decide +kernel
theorem dX10_isFigure_16 : decode cX10_isFigure 16 = .ok (.iconst 0, 1) := by decide +kernel
theorem dX10_isFigure_17 : decode cX10_isFigure 17 = .ok (.ireturn, 1) := by decide +kernel
theorem dX10_isLetter_0 : decode cX10_isLetter 0 = .ok (.iload_n 0, 1) := by decide +kernel
theorem dX10_isLetter_1 : decode cX10_isLetter 1 = .ok (.bipush 97, 2) := by decide +kernel
theorem dX10_isLetter_3 : decode cX10_isLetter 3 = .ok (.if_icmp .lt 13, 3) := by decide +kernel
theorem dX10_isLetter_6 : decode cX10_isLetter 6 = .ok (.iload_n 0, 1) := by decide +kernel
theorem dX10_isLetter_7 : decode cX10_isLetter 7 = .ok (.bipush 122, 2) := by decide +kernel
theorem dX10_isLetter_9 : decode cX10_isLetter 9 = .ok (.if_icmp .gt 7, 3) := by decide +kernel
theorem dX10_isLetter_12 : decode cX10_isLetter 12 = .ok (.iconst 1, 1) := by decide +kernel
theorem dX10_isLetter_13 : decode cX10_isLetter 13 = .ok (.goto 4, 3) := by decide +kernel
theorem dX10_isLetter_16 : decode cX10_isLetter 16 = .ok (.iconst 0, 1) := by decide +kernel
theorem dX10_isLetter_17 : decode cX10_isLetter 17 = .ok (.ireturn, 1) := by decide +kernel
theorem dX10_addToken_0 : decode cX10_addToken 0 = .ok (.aload_n 0, 1) := by decide +kernel
theorem dX10_addToken_1 : decode cX10_addToken 1 = .ok (.getfield 38, 3) := by decide +kernel
theorem dX10_addToken_4 : decode cX10_addToken 4 = .ok (.ifCond .lt 53, 3) := by decide +kernel
theorem dX10_addToken_7 : decode cX10_addToken 7 = .ok (.aload_n 0, 1) := by decide +kernel
theorem dX10_addToken_8 : decode cX10_addToken 8 = .ok (.getfield 38, 3) := by decide +kernel
theorem dX10_addToken_11 : decode cX10_addToken 11 = .ok (.sipush 200, 3) := by decide +kernel
theorem dX10_addToken_14 : decode cX10_addToken 14 = .ok (.if_icmp .gt 43, 3) := by decide +kernel
theorem dX10_addToken_17 : decode cX10_addToken 17 = .ok (.aload_n 0, 1) := by decide +kernel
theorem dX10_addToken_18 : decode cX10_addToken 18 = .ok (.getfield 15, 3) := by decide +kernel
theorem dX10_addToken_21 : decode cX10_addToken 21 = .ok (.aload_n 0, 1) := by decide +kernel
theorem dX10_addToken_22 : decode cX10_addToken 22 = .ok (.getfield 38, 3) := by decide +kernel
theorem dX10_addToken_25 : decode cX10_addToken 25 = .ok (.iload_n 1, 1) := by decide +kernel
theorem dX10_addToken_26 : decode cX10_addToken 26 = .ok (.iastore, 1) := by decide +kernel
theorem dX10_addToken_27 : decode cX10_addToken 27 = .ok (.aload_n 0, 1) := by decide +kernel
theorem dX10_addToken_28 : decode cX10_addToken 28 = .ok (.getfield 18, 3) := by decide +kernel
theorem dX10_addToken_31 : decode cX10_addToken 31 = .ok (.aload_n 0, 1) := by decide +kernel
theorem dX10_addToken_32 : decode cX10_addToken 32 = .ok (.getfield 38, 3) := by decide +kernel
theorem dX10_addToken_35 : decode cX10_addToken 35 = .ok (.iload_n 2, 1) := by decide +kernel
theorem dX10_addToken_36 : decode cX10_addToken 36 = .ok (.iastore, 1) := by decide +kernel
theorem dX10_addToken_37 : decode cX10_addToken 37 = .ok (.aload_n 0, 1) := by decide +kernel
theorem dX10_addToken_38 : decode cX10_addToken 38 = .ok (.getfield 21, 3) := by decide +kernel
theorem dX10_addToken_41 : decode cX10_addToken 41 = .ok (.aload_n 0, 1) := by decide +kernel
theorem dX10_addToken_42 : decode cX10_addToken 42 = .ok (.getfield 38, 3) := by decide +kernel
theorem dX10_addToken_45 : decode cX10_addToken 45 = .ok (.iload_n 3, 1) := by decide +kernel
theorem dX10_addToken_46 : decode cX10_addToken 46 = .ok (.iastore, 1) := by decide +kernel
theorem dX10_addToken_47 : decode cX10_addToken 47 = .ok (.aload_n 0, 1) := by decide +kernel
theorem dX10_addToken_48 : decode cX10_addToken 48 = .ok (.dup, 1) := by decide +kernel
theorem dX10_addToken_49 : decode cX10_addToken 49 = .ok (.getfield 38, 3) := by decide +kernel
theorem dX10_addToken_52 : decode cX10_addToken 52 = .ok (.iconst 1, 1) := by decide +kernel
theorem dX10_addToken_53 : decode cX10_addToken 53 = .ok (.iadd, 1) := by decide +kernel
theorem dX10_addToken_54 : decode cX10_addToken 54 = .ok (.putfield 38, 3) := by decide +kernel
theorem dX10_addToken_57 : decode cX10_addToken 57 = .ok (.return_, 1) := by decide +kernel
theorem dX10_isNext_0 : decode cX10_isNext 0 = .ok (.aload_n 0, 1) := by decide +kernel
theorem dX10_isNext_1 : decode cX10_isNext 1 = .ok (.getfield 35, 3) := by decide +kernel
theorem dX10_isNext_4 : decode cX10_isNext 4 = .ok (.ifCond .ne 39, 3) := by decide +kernel
theorem dX10_isNext_7 : decode cX10_isNext 7 = .ok (.aload_n 0, 1) := by decide +kernel
theorem dX10_isNext_8 : decode cX10_isNext 8 = .ok (.getfield 41, 3) := by decide +kernel
theorem dX10_isNext_11 : decode cX10_isNext 11 = .ok (.ifCond .lt 32, 3) := by decide +kernel
theorem dX10_isNext_14 : decode cX10_isNext 14 = .ok (.aload_n 0, 1) := by decide +kernel
theorem dX10_isNext_15 : decode cX10_isNext 15 = .ok (.getfield 41, 3) := by decide +kernel
theorem dX10_isNext_18 : decode cX10_isNext 18 = .ok (.aload_n 0, 1) := by decide +kernel
theorem dX10_isNext_19 : decode cX10_isNext 19 = .ok (.getfield 15, 3) := by decide +kernel
theorem dX10_isNext_22 : decode cX10_isNext 22 = .ok (.arraylength, 1) := by decide +kernel
theorem dX10_isNext_23 : decode cX10_isNext 23 = .ok (.if_icmp .ge 20, 3) := by decide +kernel
theorem dX10_isNext_26 : decode cX10_isNext 26 = .ok (.aload_n 0, 1) := by decide +kernel
theorem dX10_isNext_27 : decode cX10_isNext 27 = .ok (.getfield 15, 3) := by decide +kernel
theorem dX10_isNext_30 : decode cX10_isNext 30 = .ok (.aload_n 0, 1) := by decide +kernel
theorem dX10_isNext_31 : decode cX10_isNext 31 = .ok (.getfield 41, 3) := by decide +kernel
theorem dX10_isNext_34 : decode cX10_isNext 34 = .ok (.iaload, 1) := by decide +kernel
theorem dX10_isNext_35 : decode cX10_isNext 35 = .ok (.iload_n 1, 1) := by decide +kernel
theorem dX10_isNext_36 : decode cX10_isNext 36 = .ok (.if_icmp .ne 7, 3) := by decide +kernel
theorem dX10_isNext_39 : decode cX10_isNext 39 = .ok (.iconst 1, 1) := by decide +kernel
theorem dX10_isNext_40 : decode cX10_isNext 40 = .ok (.goto 4, 3) := by decide +kernel
theorem dX10_isNext_43 : decode cX10_isNext 43 = .ok (.iconst 0, 1) := by decide +kernel
theorem dX10_isNext_44 : decode cX10_isNext 44 = .ok (.ireturn, 1) := by decide +kernel
theorem dX10_take_0 : decode cX10_take 0 = .ok (.aload_n 0, 1) := by decide +kernel
theorem dX10_take_1 : decode cX10_take 1 = .ok (.iload_n 1, 1) := by decide +kernel
theorem dX10_take_2 : decode cX10_take 2 = .ok (.invokevirtual 111, 3) := by decide +kernel
theorem dX10_take_5 : decode cX10_take 5 = .ok (.istore_n 2, 1) := by decide +kernel
theorem dX10_take_6 : decode cX10_take 6 = .ok (.iload_n 2, 1) := by decide +kernel
theorem dX10_take_7 : decode cX10_take 7 = .ok (.ifCond .eq 20, 3) := by decide +kernel
theorem dX10_take_10 : decode cX10_take 10 = .ok (.iload_n 1, 1) := by decide +kernel
theorem dX10_take_11 : decode cX10_take 11 = .ok (.sipush 257, 3) := by decide +kernel
theorem dX10_take_14 : decode cX10_take 14 = .ok (.if_icmp .eq 13, 3) := by decide +kernel
theorem dX10_take_17 : decode cX10_take 17 = .ok (.aload_n 0, 1) := by decide +kernel
theorem dX10_take_18 : decode cX10_take 18 = .ok (.dup, 1) := by decide +kernel
theorem dX10_take_19 : decode cX10_take 19 = .ok (.getfield 41, 3) := by decide +kernel
theorem dX10_take_22 : decode cX10_take 22 = .ok (.iconst 1, 1) := by decide +kernel
theorem dX10_take_23 : decode cX10_take 23 = .ok (.iadd, 1) := by decide +kernel
theorem dX10_take_24 : decode cX10_take 24 = .ok (.putfield 41, 3) := by decide +kernel
theorem dX10_take_27 : decode cX10_take 27 = .ok (.iload_n 2, 1) := by decide +kernel
theorem dX10_take_28 : decode cX10_take 28 = .ok (.ireturn, 1) := by decide +kernel
theorem dX10_expect_0 : decode cX10_expect 0 = .ok (.aload_n 0, 1) := by decide +kernel
theorem dX10_expect_1 : decode cX10_expect 1 = .ok (.iload_n 1, 1) := by decide +kernel
theorem dX10_expect_2 : decode cX10_expect 2 = .ok (.invokevirtual 114, 3) := by decide +kernel
theorem dX10_expect_5 : decode cX10_expect 5 = .ok (.ifCond .ne 8, 3) := by decide +kernel
theorem dX10_expect_8 : decode cX10_expect 8 = .ok (.aload_n 0, 1) := by decide +kernel
theorem dX10_expect_9 : decode cX10_expect 9 = .ok (.iconst 1, 1) := by decide +kernel
theorem dX10_expect_10 : decode cX10_expect 10 = .ok (.invokevirtual 117, 3) := by decide +kernel
theorem dX10_expect_13 : decode cX10_expect 13 = .ok (.return_, 1) := by decide +kernel
theorem dX10_takeFigures_0 : decode cX10_takeFigures 0 = .ok (.aload_n 0, 1) := by decide +kernel
theorem dX10_takeFigures_1 : decode cX10_takeFigures 1 = .ok (.getfield 41, 3) := by decide +kernel
theorem dX10_takeFigures_4 : decode cX10_takeFigures 4 = .ok (.ifCond .lt 27, 3) := by decide +kernel
theorem dX10_takeFigures_7 : decode cX10_takeFigures 7 = .ok (.aload_n 0, 1) := by decide +kernel
theorem dX10_takeFigures_8 : decode cX10_takeFigures 8 = .ok (.getfield 41, 3) := by decide +kernel
theorem dX10_takeFigures_11 : decode cX10_takeFigures 11 = .ok (.aload_n 0, 1) := by decide +kernel
theorem dX10_takeFigures_12 : decode cX10_takeFigures 12 = .ok (.getfield 18, 3) := by decide +kernel
theorem dX10_takeFigures_15 : decode cX10_takeFigures 15 = .ok (.arraylength, 1) := by decide +kernel
theorem dX10_takeFigures_16 : decode cX10_takeFigures 16 = .ok (.if_icmp .ge 15, 3) := by decide +kernel
theorem dX10_takeFigures_19 : decode cX10_takeFigures 19 = .ok (.aload_n 0, 1) := by decide +kernel
theorem dX10_takeFigures_20 : decode cX10_takeFigures 20 = .ok (.getfield 18, 3) := by decide +kernel
theorem dX10_takeFigures_23 : decode cX10_takeFigures 23 = .ok (.aload_n 0, 1) := by decide +kernel
theorem dX10_takeFigures_24 : decode cX10_takeFigures 24 = .ok (.getfield 41, 3) := by decide +kernel
theorem dX10_takeFigures_27 : decode cX10_takeFigures 27 = .ok (.iaload, 1) := by decide +kernel
theorem dX10_takeFigures_28 : decode cX10_takeFigures 28 = .ok (.goto 4, 3) := by decide +kernel
theorem dX10_takeFigures_31 : decode cX10_takeFigures 31 = .ok (.iconst 0, 1) := by decide +kernel
theorem dX10_takeFigures_32 : decode cX10_takeFigures 32 = .ok (.istore_n 2, 1) := by decide +kernel
theorem dX10_takeFigures_33 : decode cX10_takeFigures 33 = .ok (.aload_n 0, 1) := by decide +kernel
theorem dX10_takeFigures_34 : decode cX10_takeFigures 34 = .ok (.sipush 256, 3) := by decide +kernel
theorem dX10_takeFigures_37 : decode cX10_takeFigures 37 = .ok (.invokevirtual 111, 3) := by decide +kernel
theorem dX10_takeFigures_40 : decode cX10_takeFigures 40 = .ok (.ifCond .ne 10, 3) := by decide +kernel
theorem dX10_takeFigures_43 : decode cX10_takeFigures 43 = .ok (.aload_n 0, 1) := by decide +kernel
theorem dX10_takeFigures_44 : decode cX10_takeFigures 44 = .ok (.iconst 1, 1) := by decide +kernel
theorem dX10_takeFigures_45 : decode cX10_takeFigures 45 = .ok (.invokevirtual 117, 3) := by decide +kernel
theorem dX10_takeFigures_48 : decode cX10_takeFigures 48 = .ok (.iconst 0, 1) := by decide +kernel
theorem dX10_takeFigures_49 : decode cX10_takeFigures 49 = .ok (.ireturn, 1) := by decide +kernel
theorem dX10_takeFigures_50 : decode cX10_takeFigures 50 = .ok (.iload_n 2, 1) := by decide +kernel
theorem dX10_takeFigures_51 : decode cX10_takeFigures 51 = .ok (.iload_n 1, 1) := by decide +kernel
theorem dX10_takeFigures_52 : decode cX10_takeFigures 52 = .ok (.if_icmp .lt 10, 3) := by decide +kernel
theorem dX10_takeFigures_55 : decode cX10_takeFigures 55 = .ok (.iload_n 2, 1) := by decide +kernel
theorem dX10_takeFigures_56 : decode cX10_takeFigures 56 = .ok (.sipush 9999, 3) := by decide +kernel
theorem dX10_takeFigures_59 : decode cX10_takeFigures 59 = .ok (.if_icmp .le 10, 3) := by decide +kernel
theorem dX10_takeFigures_62 : decode cX10_takeFigures 62 = .ok (.aload_n 0, 1) := by decide +kernel
theorem dX10_takeFigures_63 : decode cX10_takeFigures 63 = .ok (.iconst 2, 1) := by decide +kernel
theorem dX10_takeFigures_64 : decode cX10_takeFigures 64 = .ok (.invokevirtual 117, 3) := by decide +kernel
theorem dX10_takeFigures_67 : decode cX10_takeFigures 67 = .ok (.iconst 0, 1) := by decide +kernel
theorem dX10_takeFigures_68 : decode cX10_takeFigures 68 = .ok (.ireturn, 1) := by decide +kernel
theorem dX10_takeFigures_69 : decode cX10_takeFigures 69 = .ok (.aload_n 0, 1) := by decide +kernel
theorem dX10_takeFigures_70 : decode cX10_takeFigures 70 = .ok (.dup, 1) := by decide +kernel
theorem dX10_takeFigures_71 : decode cX10_takeFigures 71 = .ok (.getfield 41, 3) := by decide +kernel
theorem dX10_takeFigures_74 : decode cX10_takeFigures 74 = .ok (.iconst 1, 1) := by decide +kernel
theorem dX10_takeFigures_75 : decode cX10_takeFigures 75 = .ok (.iadd, 1) := by decide +kernel
theorem dX10_takeFigures_76 : decode cX10_takeFigures 76 = .ok (.putfield 41, 3) := by decide +kernel
theorem dX10_takeFigures_79 : decode cX10_takeFigures 79 = .ok (.iload_n 2, 1) := by decide +kernel
theorem dX10_takeFigures_80 : decode cX10_takeFigures 80 = .ok (.ireturn, 1) := by decide +kernel
theorem dX10_fail_0 : decode cX10_fail 0 = .ok (.aload_n 0, 1) := by decide +kernel
theorem dX10_fail_1 : decode cX10_fail 1 = .ok (.getfield 35, 3) := by decide +kernel
theorem dX10_fail_4 : decode cX10_fail 4 = .ok (.ifCond .ne 44, 3) := by decide +kernel
theorem dX10_fail_7 : decode cX10_fail 7 = .ok (.aload_n 0, 1) := by decide +kernel
theorem dX10_fail_8 : decode cX10_fail 8 = .ok (.iload_n 1, 1) := by decide +kernel
theorem dX10_fail_9 : decode cX10_fail 9 = .ok (.putfield 35, 3) := by decide +kernel
theorem dX10_fail_12 : decode cX10_fail 12 = .ok (.aload_n 0, 1) := by decide +kernel
theorem dX10_fail_13 : decode cX10_fail 13 = .ok (.aload_n 0, 1) := by decide +kernel
theorem dX10_fail_14 : decode cX10_fail 14 = .ok (.getfield 41, 3) := by decide +kernel
theorem dX10_fail_17 : decode cX10_fail 17 = .ok (.ifCond .lt 27, 3) := by decide +kernel
theorem dX10_fail_20 : decode cX10_fail 20 = .ok (.aload_n 0, 1) := by decide +kernel
theorem dX10_fail_21 : decode cX10_fail 21 = .ok (.getfield 41, 3) := by decide +kernel
theorem dX10_fail_24 : decode cX10_fail 24 = .ok (.aload_n 0, 1) := by decide +kernel
theorem dX10_fail_25 : decode cX10_fail 25 = .ok (.getfield 21, 3) := by decide +kernel
theorem dX10_fail_28 : decode cX10_fail 28 = .ok (.arraylength, 1) := by decide +kernel
theorem dX10_fail_29 : decode cX10_fail 29 = .ok (.if_icmp .ge 15, 3) := by decide +kernel
theorem dX10_fail_32 : decode cX10_fail 32 = .ok (.aload_n 0, 1) := by decide +kernel
theorem dX10_fail_33 : decode cX10_fail 33 = .ok (.getfield 21, 3) := by decide +kernel
theorem dX10_fail_36 : decode cX10_fail 36 = .ok (.aload_n 0, 1) := by decide +kernel
theorem dX10_fail_37 : decode cX10_fail 37 = .ok (.getfield 41, 3) := by decide +kernel
theorem dX10_fail_40 : decode cX10_fail 40 = .ok (.iaload, 1) := by decide +kernel
theorem dX10_fail_41 : decode cX10_fail 41 = .ok (.goto 4, 3) := by decide +kernel
theorem dX10_fail_44 : decode cX10_fail 44 = .ok (.iconst 0, 1) := by decide +kernel
theorem dX10_fail_45 : decode cX10_fail 45 = .ok (.putfield 24, 3) := by decide +kernel
theorem dX10_fail_48 : decode cX10_fail 48 = .ok (.return_, 1) := by decide +kernel
theorem dX11_init_0 : decode cX11_init 0 = .ok (.aload_n 0, 1) := by decide +kernel
theorem dX11_init_1 : decode cX11_init 1 = .ok (.invokespecial 3, 3) := by decide +kernel
theorem dX11_init_4 : decode cX11_init 4 = .ok (.aload_n 0, 1) := by decide +kernel
theorem dX11_init_5 : decode cX11_init 5 = .ok (.bipush 10, 2) := by decide +kernel
theorem dX11_init_7 : decode cX11_init 7 = .ok (.anewarray 9, 3) := by decide +kernel
theorem dX11_init_10 : decode cX11_init 10 = .ok (.putfield 11, 3) := by decide +kernel
theorem dX11_init_13 : decode cX11_init 13 = .ok (.aload_n 0, 1) := by decide +kernel
theorem dX11_init_14 : decode cX11_init 14 = .ok (.new 9, 3) := by decide +kernel
theorem dX11_init_17 : decode cX11_init 17 = .ok (.dup, 1) := by decide +kernel
theorem dX11_init_18 : decode cX11_init 18 = .ok (.iconst (-1), 1) := by decide +kernel
theorem dX11_init_19 : decode cX11_init 19 = .ok (.invokespecial 15, 3) := by decide +kernel
theorem dX11_init_22 : decode cX11_init 22 = .ok (.putfield 18, 3) := by decide +kernel
theorem dX11_init_25 : decode cX11_init 25 = .ok (.aload_n 0, 1) := by decide +kernel
theorem dX11_init_26 : decode cX11_init 26 = .ok (.new 22, 3) := by decide +kernel
theorem dX11_init_29 : decode cX11_init 29 = .ok (.dup, 1) := by decide +kernel
theorem dX11_init_30 : decode cX11_init 30 = .ok (.invokespecial 24, 3) := by decide +kernel
theorem dX11_init_33 : decode cX11_init 33 = .ok (.putfield 25, 3) := by decide +kernel
theorem dX11_init_36 : decode cX11_init 36 = .ok (.aload_n 0, 1) := by decide +kernel
theorem dX11_init_37 : decode cX11_init 37 = .ok (.new 29, 3) := by decide +kernel
theorem dX11_init_40 : decode cX11_init 40 = .ok (.dup, 1) := by decide +kernel
theorem dX11_init_41 : decode cX11_init 41 = .ok (.invokespecial 31, 3) := by decide +kernel
theorem dX11_init_44 : decode cX11_init 44 = .ok (.putfield 32, 3) := by decide +kernel
theorem dX11_init_47 : decode cX11_init 47 = .ok (.aload_n 0, 1) := by decide +kernel
theorem dX11_init_48 : decode cX11_init 48 = .ok (.new 36, 3) := by decide +kernel
theorem dX11_init_51 : decode cX11_init 51 = .ok (.dup, 1) := by decide +kernel
theorem dX11_init_52 : decode cX11_init 52 = .ok (.invokespecial 38, 3) := by decide +kernel
theorem dX11_init_55 : decode cX11_init 55 = .ok (.putfield 39, 3) := by decide +kernel
theorem dX11_init_58 : decode cX11_init 58 = .ok (.aload_n 0, 1) := by decide +kernel
theorem dX11_init_59 : decode cX11_init 59 = .ok (.new 43, 3) := by decide +kernel
theorem dX11_init_62 : decode cX11_init 62 = .ok (.dup, 1) := by decide +kernel
theorem dX11_init_63 : decode cX11_init 63 = .ok (.invokespecial 45, 3) := by decide +kernel
theorem dX11_init_66 : decode cX11_init 66 = .ok (.putfield 46, 3) := by decide +kernel
theorem dX11_init_69 : decode cX11_init 69 = .ok (.aload_n 0, 1) := by decide +kernel
theorem dX11_init_70 : decode cX11_init 70 = .ok (.new 50, 3) := by decide +kernel
theorem dX11_init_73 : decode cX11_init 73 = .ok (.dup, 1) := by decide +kernel
theorem dX11_init_74 : decode cX11_init 74 = .ok (.invokespecial 52, 3) := by decide +kernel
theorem dX11_init_77 : decode cX11_init 77 = .ok (.putfield 53, 3) := by decide +kernel
theorem dX11_init_80 : decode cX11_init 80 = .ok (.aload_n 0, 1) := by decide +kernel
theorem dX11_init_81 : decode cX11_init 81 = .ok (.new 57, 3) := by decide +kernel
theorem dX11_init_84 : decode cX11_init 84 = .ok (.dup, 1) := by decide +kernel
theorem dX11_init_85 : decode cX11_init 85 = .ok (.aload_n 0, 1) := by decide +kernel
theorem dX11_init_86 : decode cX11_init 86 = .ok (.getfield 53, 3) := by decide +kernel
theorem dX11_init_89 : decode cX11_init 89 = .ok (.invokespecial 59, 3) := by decide +kernel
theorem dX11_init_92 : decode cX11_init 92 = .ok (.putfield 62, 3) := by decide +kernel
theorem dX11_init_95 : decode cX11_init 95 = .ok (.aload_n 0, 1) := by decide +kernel
theorem dX11_init_96 : decode cX11_init 96 = .ok (.new 66, 3) := by decide +kernel
theorem dX11_init_99 : decode cX11_init 99 = .ok (.dup, 1) := by decide +kernel
theorem dX11_init_100 : decode cX11_init 100 = .ok (.aload_n 0, 1) := by decide +kernel
theorem dX11_init_101 : decode cX11_init 101 = .ok (.getfield 53, 3) := by decide +kernel
theorem dX11_init_104 : decode cX11_init 104 = .ok (.invokespecial 68, 3) := by decide +kernel
theorem dX11_init_107 : decode cX11_init 107 = .ok (.putfield 69, 3) := by decide +kernel
theorem dX11_init_110 : decode cX11_init 110 = .ok (.aload_n 0, 1) := by decide +kernel
theorem dX11_init_111 : decode cX11_init 111 = .ok (.new 73, 3) := by decide +kernel
theorem dX11_init_114 : decode cX11_init 114 = .ok (.dup, 1) := by decide +kernel
theorem dX11_init_115 : decode cX11_init 115 = .ok (.invokespecial 75, 3) := by decide +kernel
theorem dX11_init_118 : decode cX11_init 118 = .ok (.putfield 76, 3) := by decide +kernel
theorem dX11_init_121 : decode cX11_init 121 = .ok (.iconst 0, 1) := by decide +kernel
theorem dX11_init_122 : decode cX11_init 122 = .ok (.istore_n 1, 1) := by decide +kernel
theorem dX11_init_123 : decode cX11_init 123 = .ok (.iload_n 1, 1) := by decide +kernel
theorem dX11_init_124 : decode cX11_init 124 = .ok (.bipush 10, 2) := by decide +kernel
theorem dX11_init_126 : decode cX11_init 126 = .ok (.if_icmp .ge 32, 3) := by decide +kernel
theorem dX11_init_129 : decode cX11_init 129 = .ok (.iload_n 1, 1) := by decide +kernel
theorem dX11_init_130 : decode cX11_init 130 = .ok (.aload_n 0, 1) := by decide +kernel
theorem dX11_init_131 : decode cX11_init 131 = .ok (.getfield 11, 3) := by decide +kernel
theorem dX11_init_134 : decode cX11_init 134 = .ok (.arraylength, 1) := by decide +kernel
theorem dX11_init_135 : decode cX11_init 135 = .ok (.if_icmp .ge 23, 3) := by decide +kernel
theorem dX11_init_138 : decode cX11_init 138 = .ok (.aload_n 0, 1) := by decide +kernel
theorem dX11_init_139 : decode cX11_init 139 = .ok (.getfield 11, 3) := by decide +kernel
theorem dX11_init_142 : decode cX11_init 142 = .ok (.iload_n 1, 1) := by decide +kernel
theorem dX11_init_143 : decode cX11_init 143 = .ok (.new 9, 3) := by decide +kernel
theorem dX11_init_146 : decode cX11_init 146 = .ok (.dup, 1) := by decide +kernel
theorem dX11_init_147 : decode cX11_init 147 = .ok (.iload_n 1, 1) := by decide +kernel
theorem dX11_init_148 : decode cX11_init 148 = .ok (.invokespecial 15, 3) := by decide +kernel
theorem dX11_init_151 : decode cX11_init 151 = .ok (.aastore, 1) := by decide +kernel
theorem dX11_init_152 : decode cX11_init 152 = .ok (.iinc 1 1, 3) := by decide +kernel
theorem dX11_init_155 : decode cX11_init 155 = .ok (.goto (-32), 3) := by decide +kernel
theorem dX11_init_158 : decode cX11_init 158 = .ok (.return_, 1) := by decide +kernel
theorem dX11_feed_0 : decode cX11_feed 0 = .ok (.aload_n 0, 1) := by decide +kernel
theorem dX11_feed_1 : decode cX11_feed 1 = .ok (.getfield 53, 3) := by decide +kernel
theorem dX11_feed_4 : decode cX11_feed 4 = .ok (.getfield 80, 3) := by decide +kernel
theorem dX11_feed_7 : decode cX11_feed 7 = .ok (.bipush 20, 2) := by decide +kernel
theorem dX11_feed_9 : decode cX11_feed 9 = .ok (.iadd, 1) := by decide +kernel
theorem dX11_feed_10 : decode cX11_feed 10 = .ok (.sipush 200, 3) := by decide +kernel
theorem dX11_feed_13 : decode cX11_feed 13 = .ok (.if_icmp .le 5, 3) := by decide +kernel
theorem dX11_feed_16 : decode cX11_feed 16 = .ok (.iconst (-1), 1) := by decide +kernel
theorem dX11_feed_17 : decode cX11_feed 17 = .ok (.ireturn, 1) := by decide +kernel
theorem dX11_feed_18 : decode cX11_feed 18 = .ok (.aload_n 0, 1) := by decide +kernel
theorem dX11_feed_19 : decode cX11_feed 19 = .ok (.getfield 53, 3) := by decide +kernel
theorem dX11_feed_22 : decode cX11_feed 22 = .ok (.iload_n 1, 1) := by decide +kernel
theorem dX11_feed_23 : decode cX11_feed 23 = .ok (.invokevirtual 84, 3) := by decide +kernel
theorem dX11_feed_26 : decode cX11_feed 26 = .ok (.aload_n 0, 1) := by decide +kernel
theorem dX11_feed_27 : decode cX11_feed 27 = .ok (.getfield 53, 3) := by decide +kernel
theorem dX11_feed_30 : decode cX11_feed 30 = .ok (.iload_n 2, 1) := by decide +kernel
theorem dX11_feed_31 : decode cX11_feed 31 = .ok (.invokevirtual 84, 3) := by decide +kernel
theorem dX11_feed_34 : decode cX11_feed 34 = .ok (.aload_n 0, 1) := by decide +kernel
theorem dX11_feed_35 : decode cX11_feed 35 = .ok (.getfield 53, 3) := by decide +kernel
theorem dX11_feed_38 : decode cX11_feed 38 = .ok (.iload_n 3, 1) := by decide +kernel
theorem dX11_feed_39 : decode cX11_feed 39 = .ok (.invokevirtual 84, 3) := by decide +kernel
theorem dX11_feed_42 : decode cX11_feed 42 = .ok (.aload_n 0, 1) := by decide +kernel
theorem dX11_feed_43 : decode cX11_feed 43 = .ok (.getfield 53, 3) := by decide +kernel
theorem dX11_feed_46 : decode cX11_feed 46 = .ok (.iload 4, 2) := by decide +kernel
theorem dX11_feed_48 : decode cX11_feed 48 = .ok (.invokevirtual 84, 3) := by decide +kernel
theorem dX11_feed_51 : decode cX11_feed 51 = .ok (.aload_n 0, 1) := by decide +kernel
theorem dX11_feed_52 : decode cX11_feed 52 = .ok (.getfield 53, 3) := by decide +kernel
theorem dX11_feed_55 : decode cX11_feed 55 = .ok (.iload 5, 2) := by decide +kernel
theorem dX11_feed_57 : decode cX11_feed 57 = .ok (.invokevirtual 84, 3) := by decide +kernel
theorem dX11_feed_60 : decode cX11_feed 60 = .ok (.aload_n 0, 1) := by decide +kernel
theorem dX11_feed_61 : decode cX11_feed 61 = .ok (.getfield 53, 3) := by decide +kernel
theorem dX11_feed_64 : decode cX11_feed 64 = .ok (.getfield 80, 3) := by decide +kernel
theorem dX11_feed_67 : decode cX11_feed 67 = .ok (.ireturn, 1) := by decide +kernel
theorem dX11_told_0 : decode cX11_told 0 = .ok (.aload_n 0, 1) := by decide +kernel
theorem dX11_told_1 : decode cX11_told 1 = .ok (.iload_n 1, 1) := by decide +kernel
theorem dX11_told_2 : decode cX11_told 2 = .ok (.invokevirtual 87, 3) := by decide +kernel
theorem dX11_told_5 : decode cX11_told 5 = .ok (.astore_n 3, 1) := by decide +kernel
theorem dX11_told_6 : decode cX11_told 6 = .ok (.aload_n 3, 1) := by decide +kernel
theorem dX11_told_7 : decode cX11_told 7 = .ok (.ifnull 18, 3) := by decide +kernel
theorem dX11_told_10 : decode cX11_told 10 = .ok (.iload_n 2, 1) := by decide +kernel
theorem dX11_told_11 : decode cX11_told 11 = .ok (.ifCond .lt 14, 3) := by decide +kernel
theorem dX11_told_14 : decode cX11_told 14 = .ok (.iload_n 2, 1) := by decide +kernel
theorem dX11_told_15 : decode cX11_told 15 = .ok (.aload_n 0, 1) := by decide +kernel
theorem dX11_told_16 : decode cX11_told 16 = .ok (.getfield 53, 3) := by decide +kernel
theorem dX11_told_19 : decode cX11_told 19 = .ok (.getfield 80, 3) := by decide +kernel
theorem dX11_told_22 : decode cX11_told 22 = .ok (.if_icmp .le 13, 3) := by decide +kernel
theorem dX11_told_25 : decode cX11_told 25 = .ok (.new 91, 3) := by decide +kernel
theorem dX11_told_28 : decode cX11_told 28 = .ok (.dup, 1) := by decide +kernel
theorem dX11_told_29 : decode cX11_told 29 = .ok (.ldc 93, 2) := by decide +kernel
theorem dX11_told_31 : decode cX11_told 31 = .ok (.invokespecial 95, 3) := by decide +kernel
theorem dX11_told_34 : decode cX11_told 34 = .ok (.athrow, 1) := by decide +kernel
theorem dX11_told_35 : decode cX11_told 35 = .ok (.aload_n 0, 1) := by decide +kernel
theorem dX11_told_36 : decode cX11_told 36 = .ok (.getfield 53, 3) := by decide +kernel
theorem dX11_told_39 : decode cX11_told 39 = .ok (.iload_n 2, 1) := by decide +kernel
theorem dX11_told_40 : decode cX11_told 40 = .ok (.invokevirtual 98, 3) := by decide +kernel
theorem dX11_told_43 : decode cX11_told 43 = .ok (.aload_n 0, 1) := by decide +kernel
theorem dX11_told_44 : decode cX11_told 44 = .ok (.getfield 62, 3) := by decide +kernel
theorem dX11_told_47 : decode cX11_told 47 = .ok (.invokevirtual 101, 3) := by decide +kernel
theorem dX11_told_50 : decode cX11_told 50 = .ok (.aload_n 0, 1) := by decide +kernel
theorem dX11_told_51 : decode cX11_told 51 = .ok (.getfield 53, 3) := by decide +kernel
theorem dX11_told_54 : decode cX11_told 54 = .ok (.invokevirtual 104, 3) := by decide +kernel
theorem dX11_told_57 : decode cX11_told 57 = .ok (.aload_n 0, 1) := by decide +kernel
theorem dX11_told_58 : decode cX11_told 58 = .ok (.getfield 53, 3) := by decide +kernel
theorem dX11_told_61 : decode cX11_told 61 = .ok (.getfield 107, 3) := by decide +kernel
theorem dX11_told_64 : decode cX11_told 64 = .ok (.ifCond .eq 14, 3) := by decide +kernel
theorem dX11_told_67 : decode cX11_told 67 = .ok (.bipush (-10), 2) := by decide +kernel
theorem dX11_told_69 : decode cX11_told 69 = .ok (.aload_n 0, 1) := by decide +kernel
theorem dX11_told_70 : decode cX11_told 70 = .ok (.getfield 53, 3) := by decide +kernel
theorem dX11_told_73 : decode cX11_told 73 = .ok (.getfield 107, 3) := by decide +kernel
theorem dX11_told_76 : decode cX11_told 76 = .ok (.isub, 1) := by decide +kernel
theorem dX11_told_77 : decode cX11_told 77 = .ok (.ireturn, 1) := by decide +kernel
theorem dX11_told_78 : decode cX11_told 78 = .ok (.aload_n 0, 1) := by decide +kernel
theorem dX11_told_79 : decode cX11_told 79 = .ok (.aload_n 3, 1) := by decide +kernel
theorem dX11_told_80 : decode cX11_told 80 = .ok (.invokevirtual 110, 3) := by decide +kernel
theorem dX11_told_83 : decode cX11_told 83 = .ok (.astore 4, 2) := by decide +kernel
theorem dX11_told_85 : decode cX11_told 85 = .ok (.aload 4, 2) := by decide +kernel
theorem dX11_told_87 : decode cX11_told 87 = .ok (.iconst 2, 1) := by decide +kernel
theorem dX11_told_88 : decode cX11_told 88 = .ok (.iconst 0, 1) := by decide +kernel
theorem dX11_told_89 : decode cX11_told 89 = .ok (.iconst 0, 1) := by decide +kernel
theorem dX11_told_90 : decode cX11_told 90 = .ok (.iconst 0, 1) := by decide +kernel
theorem dX11_told_91 : decode cX11_told 91 = .ok (.iconst 0, 1) := by decide +kernel
theorem dX11_told_92 : decode cX11_told 92 = .ok (.iconst 0, 1) := by decide +kernel
theorem dX11_told_93 : decode cX11_told 93 = .ok (.iconst 0, 1) := by decide +kernel
theorem dX11_told_94 : decode cX11_told 94 = .ok (.invokevirtual 114, 3) := by decide +kernel
theorem dX11_told_97 : decode cX11_told 97 = .ok (.aload_n 0, 1) := by decide +kernel
theorem dX11_told_98 : decode cX11_told 98 = .ok (.getfield 62, 3) := by decide +kernel
theorem dX11_told_101 : decode cX11_told 101 = .ok (.aload 4, 2) := by decide +kernel
theorem dX11_told_103 : decode cX11_told 103 = .ok (.invokevirtual 120, 3) := by decide +kernel
theorem dX11_told_106 : decode cX11_told 106 = .ok (.aload_n 0, 1) := by decide +kernel
theorem dX11_told_107 : decode cX11_told 107 = .ok (.getfield 62, 3) := by decide +kernel
theorem dX11_told_110 : decode cX11_told 110 = .ok (.getfield 124, 3) := by decide +kernel
theorem dX11_told_113 : decode cX11_told 113 = .ok (.ireturn, 1) := by decide +kernel
theorem dX11_ask_0 : decode cX11_ask 0 = .ok (.aload_n 0, 1) := by decide +kernel
theorem dX11_ask_1 : decode cX11_ask 1 = .ok (.iload_n 1, 1) := by decide +kernel
theorem dX11_ask_2 : decode cX11_ask 2 = .ok (.invokevirtual 87, 3) := by decide +kernel
theorem dX11_ask_5 : decode cX11_ask 5 = .ok (.ifnull 18, 3) := by decide +kernel
theorem dX11_ask_8 : decode cX11_ask 8 = .ok (.iload_n 2, 1) := by decide +kernel
theorem dX11_ask_9 : decode cX11_ask 9 = .ok (.ifCond .lt 14, 3) := by decide +kernel
theorem dX11_ask_12 : decode cX11_ask 12 = .ok (.iload_n 2, 1) := by decide +kernel
theorem dX11_ask_13 : decode cX11_ask 13 = .ok (.aload_n 0, 1) := by decide +kernel
theorem dX11_ask_14 : decode cX11_ask 14 = .ok (.getfield 53, 3) := by decide +kernel
theorem dX11_ask_17 : decode cX11_ask 17 = .ok (.getfield 80, 3) := by decide +kernel
theorem dX11_ask_20 : decode cX11_ask 20 = .ok (.if_icmp .le 13, 3) := by decide +kernel
theorem dX11_ask_23 : decode cX11_ask 23 = .ok (.new 91, 3) := by decide +kernel
theorem dX11_ask_26 : decode cX11_ask 26 = .ok (.dup, 1) := by decide +kernel
theorem dX11_ask_27 : decode cX11_ask 27 = .ok (.ldc 93, 2) := by decide +kernel
theorem dX11_ask_29 : decode cX11_ask 29 = .ok (.invokespecial 95, 3) := by decide +kernel
theorem dX11_ask_32 : decode cX11_ask 32 = .ok (.athrow, 1) := by decide +kernel
theorem dX11_ask_33 : decode cX11_ask 33 = .ok (.aload_n 0, 1) := by decide +kernel
theorem dX11_ask_34 : decode cX11_ask 34 = .ok (.getfield 53, 3) := by decide +kernel
theorem dX11_ask_37 : decode cX11_ask 37 = .ok (.iload_n 2, 1) := by decide +kernel
theorem dX11_ask_38 : decode cX11_ask 38 = .ok (.invokevirtual 98, 3) := by decide +kernel
theorem dX11_ask_41 : decode cX11_ask 41 = .ok (.aload_n 0, 1) := by decide +kernel
theorem dX11_ask_42 : decode cX11_ask 42 = .ok (.getfield 69, 3) := by decide +kernel
theorem dX11_ask_45 : decode cX11_ask 45 = .ok (.aload_n 0, 1) := by decide +kernel
theorem dX11_ask_46 : decode cX11_ask 46 = .ok (.iload_n 1, 1) := by decide +kernel
theorem dX11_ask_47 : decode cX11_ask 47 = .ok (.invokevirtual 127, 3) := by decide +kernel
theorem dX11_ask_50 : decode cX11_ask 50 = .ok (.invokevirtual 130, 3) := by decide +kernel
theorem dX11_ask_53 : decode cX11_ask 53 = .ok (.istore_n 3, 1) := by decide +kernel
theorem dX11_ask_54 : decode cX11_ask 54 = .ok (.aload_n 0, 1) := by decide +kernel
theorem dX11_ask_55 : decode cX11_ask 55 = .ok (.getfield 53, 3) := by decide +kernel
theorem dX11_ask_58 : decode cX11_ask 58 = .ok (.invokevirtual 104, 3) := by decide +kernel
theorem dX11_ask_61 : decode cX11_ask 61 = .ok (.iload_n 3, 1) := by decide +kernel
theorem dX11_ask_62 : decode cX11_ask 62 = .ok (.ireturn, 1) := by decide +kernel
theorem dX11_fault_0 : decode cX11_fault 0 = .ok (.aload_n 0, 1) := by decide +kernel
theorem dX11_fault_1 : decode cX11_fault 1 = .ok (.getfield 53, 3) := by decide +kernel
theorem dX11_fault_4 : decode cX11_fault 4 = .ok (.getfield 134, 3) := by decide +kernel
theorem dX11_fault_7 : decode cX11_fault 7 = .ok (.ireturn, 1) := by decide +kernel
theorem dX11_fraction_0 : decode cX11_fraction 0 = .ok (.aload_n 0, 1) := by decide +kernel
theorem dX11_fraction_1 : decode cX11_fraction 1 = .ok (.iload_n 1, 1) := by decide +kernel
theorem dX11_fraction_2 : decode cX11_fraction 2 = .ok (.invokevirtual 87, 3) := by decide +kernel
theorem dX11_fraction_5 : decode cX11_fraction 5 = .ok (.astore 4, 2) := by decide +kernel
theorem dX11_fraction_7 : decode cX11_fraction 7 = .ok (.aload 4, 2) := by decide +kernel
theorem dX11_fraction_9 : decode cX11_fraction 9 = .ok (.ifnull 25, 3) := by decide +kernel
theorem dX11_fraction_12 : decode cX11_fraction 12 = .ok (.iload_n 2, 1) := by decide +kernel
theorem dX11_fraction_13 : decode cX11_fraction 13 = .ok (.sipush 9999, 3) := by decide +kernel
theorem dX11_fraction_16 : decode cX11_fraction 16 = .ok (.invokestatic 137, 3) := by decide +kernel
theorem dX11_fraction_19 : decode cX11_fraction 19 = .ok (.ifCond .eq 15, 3) := by decide +kernel
theorem dX11_fraction_22 : decode cX11_fraction 22 = .ok (.iload_n 3, 1) := by decide +kernel
theorem dX11_fraction_23 : decode cX11_fraction 23 = .ok (.iconst 1, 1) := by decide +kernel
theorem dX11_fraction_24 : decode cX11_fraction 24 = .ok (.if_icmp .lt 10, 3) := by decide +kernel
theorem dX11_fraction_27 : decode cX11_fraction 27 = .ok (.iload_n 3, 1) := by decide +kernel
theorem dX11_fraction_28 : decode cX11_fraction 28 = .ok (.sipush 9999, 3) := by decide +kernel
theorem dX11_fraction_31 : decode cX11_fraction 31 = .ok (.if_icmp .le 5, 3) := by decide +kernel
theorem dX11_fraction_34 : decode cX11_fraction 34 = .ok (.iconst 0, 1) := by decide +kernel
theorem dX11_fraction_35 : decode cX11_fraction 35 = .ok (.ireturn, 1) := by decide +kernel
theorem dX11_fraction_36 : decode cX11_fraction 36 = .ok (.aload_n 0, 1) := by decide +kernel
theorem dX11_fraction_37 : decode cX11_fraction 37 = .ok (.aload 4, 2) := by decide +kernel
theorem dX11_fraction_39 : decode cX11_fraction 39 = .ok (.invokevirtual 110, 3) := by decide +kernel
theorem dX11_fraction_42 : decode cX11_fraction 42 = .ok (.iconst 0, 1) := by decide +kernel
theorem dX11_fraction_43 : decode cX11_fraction 43 = .ok (.iconst 0, 1) := by decide +kernel
theorem dX11_fraction_44 : decode cX11_fraction 44 = .ok (.iconst 0, 1) := by decide +kernel
theorem dX11_fraction_45 : decode cX11_fraction 45 = .ok (.iload_n 2, 1) := by decide +kernel
theorem dX11_fraction_46 : decode cX11_fraction 46 = .ok (.iload_n 3, 1) := by decide +kernel
theorem dX11_fraction_47 : decode cX11_fraction 47 = .ok (.iconst 0, 1) := by decide +kernel
theorem dX11_fraction_48 : decode cX11_fraction 48 = .ok (.iconst 0, 1) := by decide +kernel
theorem dX11_fraction_49 : decode cX11_fraction 49 = .ok (.invokevirtual 114, 3) := by decide +kernel
theorem dX11_fraction_52 : decode cX11_fraction 52 = .ok (.iconst 1, 1) := by decide +kernel
theorem dX11_fraction_53 : decode cX11_fraction 53 = .ok (.ireturn, 1) := by decide +kernel
theorem dX11_root_0 : decode cX11_root 0 = .ok (.aload_n 0, 1) := by decide +kernel
theorem dX11_root_1 : decode cX11_root 1 = .ok (.iload_n 1, 1) := by decide +kernel
theorem dX11_root_2 : decode cX11_root 2 = .ok (.invokevirtual 87, 3) := by decide +kernel
theorem dX11_root_5 : decode cX11_root 5 = .ok (.astore 5, 2) := by decide +kernel
theorem dX11_root_7 : decode cX11_root 7 = .ok (.aload 5, 2) := by decide +kernel
theorem dX11_root_9 : decode cX11_root 9 = .ok (.ifnull 24, 3) := by decide +kernel
theorem dX11_root_12 : decode cX11_root 12 = .ok (.iload_n 2, 1) := by decide +kernel
theorem dX11_root_13 : decode cX11_root 13 = .ok (.sipush 999, 3) := by decide +kernel
theorem dX11_root_16 : decode cX11_root 16 = .ok (.invokestatic 137, 3) := by decide +kernel
theorem dX11_root_19 : decode cX11_root 19 = .ok (.ifCond .eq 14, 3) := by decide +kernel
theorem dX11_root_22 : decode cX11_root 22 = .ok (.iload_n 3, 1) := by decide +kernel
theorem dX11_root_23 : decode cX11_root 23 = .ok (.ifCond .lt 10, 3) := by decide +kernel
theorem dX11_root_26 : decode cX11_root 26 = .ok (.iload_n 3, 1) := by decide +kernel
theorem dX11_root_27 : decode cX11_root 27 = .ok (.sipush 9999, 3) := by decide +kernel
theorem dX11_root_30 : decode cX11_root 30 = .ok (.if_icmp .le 5, 3) := by decide +kernel
theorem dX11_root_33 : decode cX11_root 33 = .ok (.iconst 0, 1) := by decide +kernel
theorem dX11_root_34 : decode cX11_root 34 = .ok (.ireturn, 1) := by decide +kernel
theorem dX11_root_35 : decode cX11_root 35 = .ok (.iload 4, 2) := by decide +kernel
theorem dX11_root_37 : decode cX11_root 37 = .ok (.ifCond .eq 13, 3) := by decide +kernel
theorem dX11_root_40 : decode cX11_root 40 = .ok (.iload 4, 2) := by decide +kernel
theorem dX11_root_42 : decode cX11_root 42 = .ok (.bipush 99, 2) := by decide +kernel
theorem dX11_root_44 : decode cX11_root 44 = .ok (.invokestatic 137, 3) := by decide +kernel
theorem dX11_root_47 : decode cX11_root 47 = .ok (.ifCond .ne 5, 3) := by decide +kernel
theorem dX11_root_50 : decode cX11_root 50 = .ok (.iconst 0, 1) := by decide +kernel
theorem dX11_root_51 : decode cX11_root 51 = .ok (.ireturn, 1) := by decide +kernel
theorem dX11_root_52 : decode cX11_root 52 = .ok (.aload_n 0, 1) := by decide +kernel
theorem dX11_root_53 : decode cX11_root 53 = .ok (.aload 5, 2) := by decide +kernel
theorem dX11_root_55 : decode cX11_root 55 = .ok (.invokevirtual 110, 3) := by decide +kernel
theorem dX11_root_58 : decode cX11_root 58 = .ok (.iconst 1, 1) := by decide +kernel
theorem dX11_root_59 : decode cX11_root 59 = .ok (.iconst 0, 1) := by decide +kernel
theorem dX11_root_60 : decode cX11_root 60 = .ok (.iconst 0, 1) := by decide +kernel
theorem dX11_root_61 : decode cX11_root 61 = .ok (.iload_n 2, 1) := by decide +kernel
theorem dX11_root_62 : decode cX11_root 62 = .ok (.iload_n 3, 1) := by decide +kernel
theorem dX11_root_63 : decode cX11_root 63 = .ok (.iload 4, 2) := by decide +kernel
theorem dX11_root_65 : decode cX11_root 65 = .ok (.iconst 0, 1) := by decide +kernel
theorem dX11_root_66 : decode cX11_root 66 = .ok (.invokevirtual 114, 3) := by decide +kernel
theorem dX11_root_69 : decode cX11_root 69 = .ok (.iconst 1, 1) := by decide +kernel
theorem dX11_root_70 : decode cX11_root 70 = .ok (.ireturn, 1) := by decide +kernel
theorem dX11_single_0 : decode cX11_single 0 = .ok (.aload_n 0, 1) := by decide +kernel
theorem dX11_single_1 : decode cX11_single 1 = .ok (.iload_n 1, 1) := by decide +kernel
theorem dX11_single_2 : decode cX11_single 2 = .ok (.invokevirtual 87, 3) := by decide +kernel
theorem dX11_single_5 : decode cX11_single 5 = .ok (.astore 7, 2) := by decide +kernel
theorem dX11_single_7 : decode cX11_single 7 = .ok (.aload 7, 2) := by decide +kernel
theorem dX11_single_9 : decode cX11_single 9 = .ok (.ifnull 29, 3) := by decide +kernel
theorem dX11_single_12 : decode cX11_single 12 = .ok (.aload_n 0, 1) := by decide +kernel
theorem dX11_single_13 : decode cX11_single 13 = .ok (.iload_n 2, 1) := by decide +kernel
theorem dX11_single_14 : decode cX11_single 14 = .ok (.invokevirtual 87, 3) := by decide +kernel
theorem dX11_single_17 : decode cX11_single 17 = .ok (.ifnull 21, 3) := by decide +kernel
theorem dX11_single_20 : decode cX11_single 20 = .ok (.iload_n 2, 1) := by decide +kernel
theorem dX11_single_21 : decode cX11_single 21 = .ok (.iload_n 1, 1) := by decide +kernel
theorem dX11_single_22 : decode cX11_single 22 = .ok (.if_icmp .ge 16, 3) := by decide +kernel
theorem dX11_single_25 : decode cX11_single 25 = .ok (.iload_n 3, 1) := by decide +kernel
theorem dX11_single_26 : decode cX11_single 26 = .ok (.iload 4, 2) := by decide +kernel
theorem dX11_single_28 : decode cX11_single 28 = .ok (.iload 5, 2) := by decide +kernel
theorem dX11_single_30 : decode cX11_single 30 = .ok (.iload 6, 2) := by decide +kernel
theorem dX11_single_32 : decode cX11_single 32 = .ok (.invokestatic 141, 3) := by decide +kernel
theorem dX11_single_35 : decode cX11_single 35 = .ok (.ifCond .ne 5, 3) := by decide +kernel
theorem dX11_single_38 : decode cX11_single 38 = .ok (.iconst 0, 1) := by decide +kernel
theorem dX11_single_39 : decode cX11_single 39 = .ok (.ireturn, 1) := by decide +kernel
theorem dX11_single_40 : decode cX11_single 40 = .ok (.aload_n 0, 1) := by decide +kernel
theorem dX11_single_41 : decode cX11_single 41 = .ok (.aload 7, 2) := by decide +kernel
theorem dX11_single_43 : decode cX11_single 43 = .ok (.invokevirtual 110, 3) := by decide +kernel
theorem dX11_single_46 : decode cX11_single 46 = .ok (.iconst 3, 1) := by decide +kernel
theorem dX11_single_47 : decode cX11_single 47 = .ok (.iload_n 2, 1) := by decide +kernel
theorem dX11_single_48 : decode cX11_single 48 = .ok (.iload_n 2, 1) := by decide +kernel
theorem dX11_single_49 : decode cX11_single 49 = .ok (.iload_n 3, 1) := by decide +kernel
theorem dX11_single_50 : decode cX11_single 50 = .ok (.iload 4, 2) := by decide +kernel
theorem dX11_single_52 : decode cX11_single 52 = .ok (.iload 5, 2) := by decide +kernel
theorem dX11_single_54 : decode cX11_single 54 = .ok (.iload 6, 2) := by decide +kernel
theorem dX11_single_56 : decode cX11_single 56 = .ok (.invokevirtual 114, 3) := by decide +kernel
theorem dX11_single_59 : decode cX11_single 59 = .ok (.iconst 1, 1) := by decide +kernel
theorem dX11_single_60 : decode cX11_single 60 = .ok (.ireturn, 1) := by decide +kernel
theorem dX11_join_0 : decode cX11_join 0 = .ok (.aload_n 0, 1) := by decide +kernel
theorem dX11_join_1 : decode cX11_join 1 = .ok (.iload_n 1, 1) := by decide +kernel
theorem dX11_join_2 : decode cX11_join 2 = .ok (.invokevirtual 87, 3) := by decide +kernel
theorem dX11_join_5 : decode cX11_join 5 = .ok (.astore 5, 2) := by decide +kernel
theorem dX11_join_7 : decode cX11_join 7 = .ok (.aload 5, 2) := by decide +kernel
theorem dX11_join_9 : decode cX11_join 9 = .ok (.ifnull 20, 3) := by decide +kernel
theorem dX11_join_12 : decode cX11_join 12 = .ok (.aload_n 0, 1) := by decide +kernel
theorem dX11_join_13 : decode cX11_join 13 = .ok (.iload_n 3, 1) := by decide +kernel
theorem dX11_join_14 : decode cX11_join 14 = .ok (.invokevirtual 87, 3) := by decide +kernel
theorem dX11_join_17 : decode cX11_join 17 = .ok (.ifnull 12, 3) := by decide +kernel
theorem dX11_join_20 : decode cX11_join 20 = .ok (.aload_n 0, 1) := by decide +kernel
theorem dX11_join_21 : decode cX11_join 21 = .ok (.iload 4, 2) := by decide +kernel
theorem dX11_join_23 : decode cX11_join 23 = .ok (.invokevirtual 87, 3) := by decide +kernel
theorem dX11_join_26 : decode cX11_join 26 = .ok (.ifnonnull 5, 3) := by decide +kernel
theorem dX11_join_29 : decode cX11_join 29 = .ok (.iconst 0, 1) := by decide +kernel
theorem dX11_join_30 : decode cX11_join 30 = .ok (.ireturn, 1) := by decide +kernel
theorem dX11_join_31 : decode cX11_join 31 = .ok (.iload_n 2, 1) := by decide +kernel
theorem dX11_join_32 : decode cX11_join 32 = .ok (.ifCond .lt 19, 3) := by decide +kernel
theorem dX11_join_35 : decode cX11_join 35 = .ok (.iload_n 2, 1) := by decide +kernel
theorem dX11_join_36 : decode cX11_join 36 = .ok (.iconst 3, 1) := by decide +kernel
theorem dX11_join_37 : decode cX11_join 37 = .ok (.if_icmp .gt 14, 3) := by decide +kernel
theorem dX11_join_40 : decode cX11_join 40 = .ok (.iload_n 3, 1) := by decide +kernel
theorem dX11_join_41 : decode cX11_join 41 = .ok (.iload_n 1, 1) := by decide +kernel
theorem dX11_join_42 : decode cX11_join 42 = .ok (.if_icmp .ge 9, 3) := by decide +kernel
theorem dX11_join_45 : decode cX11_join 45 = .ok (.iload 4, 2) := by decide +kernel
theorem dX11_join_47 : decode cX11_join 47 = .ok (.iload_n 1, 1) := by decide +kernel
theorem dX11_join_48 : decode cX11_join 48 = .ok (.if_icmp .lt 5, 3) := by decide +kernel
theorem dX11_join_51 : decode cX11_join 51 = .ok (.iconst 0, 1) := by decide +kernel
theorem dX11_join_52 : decode cX11_join 52 = .ok (.ireturn, 1) := by decide +kernel
theorem dX11_join_53 : decode cX11_join 53 = .ok (.aload_n 0, 1) := by decide +kernel
theorem dX11_join_54 : decode cX11_join 54 = .ok (.aload 5, 2) := by decide +kernel
theorem dX11_join_56 : decode cX11_join 56 = .ok (.invokevirtual 110, 3) := by decide +kernel
theorem dX11_join_59 : decode cX11_join 59 = .ok (.iconst 4, 1) := by decide +kernel
theorem dX11_join_60 : decode cX11_join 60 = .ok (.iload_n 3, 1) := by decide +kernel
theorem dX11_join_61 : decode cX11_join 61 = .ok (.iload 4, 2) := by decide +kernel
theorem dX11_join_63 : decode cX11_join 63 = .ok (.iload_n 2, 1) := by decide +kernel
theorem dX11_join_64 : decode cX11_join 64 = .ok (.iconst 0, 1) := by decide +kernel
theorem dX11_join_65 : decode cX11_join 65 = .ok (.iconst 0, 1) := by decide +kernel
theorem dX11_join_66 : decode cX11_join 66 = .ok (.iconst 0, 1) := by decide +kernel
theorem dX11_join_67 : decode cX11_join 67 = .ok (.invokevirtual 114, 3) := by decide +kernel
theorem dX11_join_70 : decode cX11_join 70 = .ok (.iconst 1, 1) := by decide +kernel
theorem dX11_join_71 : decode cX11_join 71 = .ok (.ireturn, 1) := by decide +kernel
theorem dX11_undo_0 : decode cX11_undo 0 = .ok (.aload_n 0, 1) := by decide +kernel
theorem dX11_undo_1 : decode cX11_undo 1 = .ok (.getfield 25, 3) := by decide +kernel
theorem dX11_undo_4 : decode cX11_undo 4 = .ok (.invokevirtual 145, 3) := by decide +kernel
theorem dX11_undo_7 : decode cX11_undo 7 = .ok (.astore_n 1, 1) := by decide +kernel
theorem dX11_undo_8 : decode cX11_undo 8 = .ok (.aload_n 1, 1) := by decide +kernel
theorem dX11_undo_9 : decode cX11_undo 9 = .ok (.ifnonnull 5, 3) := by decide +kernel
theorem dX11_undo_12 : decode cX11_undo 12 = .ok (.iconst (-1), 1) := by decide +kernel
theorem dX11_undo_13 : decode cX11_undo 13 = .ok (.ireturn, 1) := by decide +kernel
theorem dX11_undo_14 : decode cX11_undo 14 = .ok (.aload_n 0, 1) := by decide +kernel
theorem dX11_undo_15 : decode cX11_undo 15 = .ok (.aload_n 1, 1) := by decide +kernel
theorem dX11_undo_16 : decode cX11_undo 16 = .ok (.invokevirtual 149, 3) := by decide +kernel
theorem dX11_undo_19 : decode cX11_undo 19 = .ok (.aload_n 0, 1) := by decide +kernel
theorem dX11_undo_20 : decode cX11_undo 20 = .ok (.getfield 25, 3) := by decide +kernel
theorem dX11_undo_23 : decode cX11_undo 23 = .ok (.getfield 153, 3) := by decide +kernel
theorem dX11_undo_26 : decode cX11_undo 26 = .ok (.ireturn, 1) := by decide +kernel
theorem dX11_count_0 : decode cX11_count 0 = .ok (.iload_n 1, 1) := by decide +kernel
theorem dX11_count_1 : decode cX11_count 1 = .ok (.tableswitch 99 0 7 #[47, 55, 63, 69, 75, 81, 87, 93], 47) := by decide +kernel
theorem dX11_count_48 : decode cX11_count 48 = .ok (.aload_n 0, 1) := by decide +kernel
theorem dX11_count_49 : decode cX11_count 49 = .ok (.getfield 25, 3) := by decide +kernel
theorem dX11_count_52 : decode cX11_count 52 = .ok (.getfield 153, 3) := by decide +kernel
theorem dX11_count_55 : decode cX11_count 55 = .ok (.ireturn, 1) := by decide +kernel
theorem dX11_count_56 : decode cX11_count 56 = .ok (.aload_n 0, 1) := by decide +kernel
theorem dX11_count_57 : decode cX11_count 57 = .ok (.getfield 53, 3) := by decide +kernel
theorem dX11_count_60 : decode cX11_count 60 = .ok (.getfield 80, 3) := by decide +kernel
theorem dX11_count_63 : decode cX11_count 63 = .ok (.ireturn, 1) := by decide +kernel
theorem dX11_count_64 : decode cX11_count 64 = .ok (.aload_n 0, 1) := by decide +kernel
theorem dX11_count_65 : decode cX11_count 65 = .ok (.iconst 3, 1) := by decide +kernel
theorem dX11_count_66 : decode cX11_count 66 = .ok (.invokevirtual 156, 3) := by decide +kernel
theorem dX11_count_69 : decode cX11_count 69 = .ok (.ireturn, 1) := by decide +kernel
theorem dX11_count_70 : decode cX11_count 70 = .ok (.aload_n 0, 1) := by decide +kernel
theorem dX11_count_71 : decode cX11_count 71 = .ok (.iconst 4, 1) := by decide +kernel
theorem dX11_count_72 : decode cX11_count 72 = .ok (.invokevirtual 156, 3) := by decide +kernel
theorem dX11_count_75 : decode cX11_count 75 = .ok (.ireturn, 1) := by decide +kernel
theorem dX11_count_76 : decode cX11_count 76 = .ok (.aload_n 0, 1) := by decide +kernel
theorem dX11_count_77 : decode cX11_count 77 = .ok (.iconst 0, 1) := by decide +kernel
theorem dX11_count_78 : decode cX11_count 78 = .ok (.invokevirtual 160, 3) := by decide +kernel
theorem dX11_count_81 : decode cX11_count 81 = .ok (.ireturn, 1) := by decide +kernel
theorem dX11_count_82 : decode cX11_count 82 = .ok (.aload_n 0, 1) := by decide +kernel
theorem dX11_count_83 : decode cX11_count 83 = .ok (.iconst 1, 1) := by decide +kernel
theorem dX11_count_84 : decode cX11_count 84 = .ok (.invokevirtual 160, 3) := by decide +kernel
theorem dX11_count_87 : decode cX11_count 87 = .ok (.ireturn, 1) := by decide +kernel
theorem dX11_count_88 : decode cX11_count 88 = .ok (.aload_n 0, 1) := by decide +kernel
theorem dX11_count_89 : decode cX11_count 89 = .ok (.iconst 2, 1) := by decide +kernel
theorem dX11_count_90 : decode cX11_count 90 = .ok (.invokevirtual 160, 3) := by decide +kernel
theorem dX11_count_93 : decode cX11_count 93 = .ok (.ireturn, 1) := by decide +kernel
theorem dX11_count_94 : decode cX11_count 94 = .ok (.aload_n 0, 1) := by decide +kernel
theorem dX11_count_95 : decode cX11_count 95 = .ok (.iconst 3, 1) := by decide +kernel
theorem dX11_count_96 : decode cX11_count 96 = .ok (.invokevirtual 160, 3) := by decide +kernel
theorem dX11_count_99 : decode cX11_count 99 = .ok (.ireturn, 1) := by decide +kernel
theorem dX11_count_100 : decode cX11_count 100 = .ok (.new 163, 3) := by decide +kernel
theorem dX11_count_103 : decode cX11_count 103 = .ok (.dup, 1) := by decide +kernel
theorem dX11_count_104 : decode cX11_count 104 = .ok (.ldc 165, 2) := by decide +kernel
theorem dX11_count_106 : decode cX11_count 106 = .ok (.invokespecial 167, 3) := by decide +kernel
theorem dX11_count_109 : decode cX11_count 109 = .ok (.athrow, 1) := by decide +kernel
theorem dX11_of_0 : decode cX11_of 0 = .ok (.aload_n 0, 1) := by decide +kernel
theorem dX11_of_1 : decode cX11_of 1 = .ok (.iload_n 1, 1) := by decide +kernel
theorem dX11_of_2 : decode cX11_of 2 = .ok (.invokevirtual 127, 3) := by decide +kernel
theorem dX11_of_5 : decode cX11_of 5 = .ok (.astore_n 3, 1) := by decide +kernel
theorem dX11_of_6 : decode cX11_of 6 = .ok (.iload_n 2, 1) := by decide +kernel
theorem dX11_of_7 : decode cX11_of 7 = .ok (.tableswitch 80 0 6 #[41, 49, 54, 59, 64, 69, 74], 41) := by decide +kernel
theorem dX11_of_48 : decode cX11_of 48 = .ok (.aload_n 3, 1) := by decide +kernel
theorem dX11_of_49 : decode cX11_of 49 = .ok (.getfield 168, 3) := by decide +kernel
theorem dX11_of_52 : decode cX11_of 52 = .ok (.getfield 172, 3) := by decide +kernel
theorem dX11_of_55 : decode cX11_of 55 = .ok (.ireturn, 1) := by decide +kernel
theorem dX11_of_56 : decode cX11_of 56 = .ok (.aload_n 3, 1) := by decide +kernel
theorem dX11_of_57 : decode cX11_of 57 = .ok (.getfield 175, 3) := by decide +kernel
theorem dX11_of_60 : decode cX11_of 60 = .ok (.ireturn, 1) := by decide +kernel
theorem dX11_of_61 : decode cX11_of 61 = .ok (.aload_n 3, 1) := by decide +kernel
theorem dX11_of_62 : decode cX11_of 62 = .ok (.getfield 178, 3) := by decide +kernel
theorem dX11_of_65 : decode cX11_of 65 = .ok (.ireturn, 1) := by decide +kernel
theorem dX11_of_66 : decode cX11_of 66 = .ok (.aload_n 3, 1) := by decide +kernel
theorem dX11_of_67 : decode cX11_of 67 = .ok (.getfield 181, 3) := by decide +kernel
theorem dX11_of_70 : decode cX11_of 70 = .ok (.ireturn, 1) := by decide +kernel
theorem dX11_of_71 : decode cX11_of 71 = .ok (.aload_n 3, 1) := by decide +kernel
theorem dX11_of_72 : decode cX11_of 72 = .ok (.invokevirtual 184, 3) := by decide +kernel
theorem dX11_of_75 : decode cX11_of 75 = .ok (.ireturn, 1) := by decide +kernel
theorem dX11_of_76 : decode cX11_of 76 = .ok (.aload_n 3, 1) := by decide +kernel
theorem dX11_of_77 : decode cX11_of 77 = .ok (.invokevirtual 188, 3) := by decide +kernel
theorem dX11_of_80 : decode cX11_of 80 = .ok (.ireturn, 1) := by decide +kernel
theorem dX11_of_81 : decode cX11_of 81 = .ok (.aload_n 0, 1) := by decide +kernel
theorem dX11_of_82 : decode cX11_of 82 = .ok (.iload_n 1, 1) := by decide +kernel
theorem dX11_of_83 : decode cX11_of 83 = .ok (.invokevirtual 191, 3) := by decide +kernel
theorem dX11_of_86 : decode cX11_of 86 = .ok (.ireturn, 1) := by decide +kernel
theorem dX11_of_87 : decode cX11_of 87 = .ok (.new 163, 3) := by decide +kernel
theorem dX11_of_90 : decode cX11_of 90 = .ok (.dup, 1) := by decide +kernel
theorem dX11_of_91 : decode cX11_of 91 = .ok (.ldc 194, 2) := by decide +kernel
theorem dX11_of_93 : decode cX11_of 93 = .ok (.invokespecial 167, 3) := by decide +kernel
theorem dX11_of_96 : decode cX11_of 96 = .ok (.athrow, 1) := by decide +kernel
theorem dX11_term_0 : decode cX11_term 0 = .ok (.aload_n 0, 1) := by decide +kernel
theorem dX11_term_1 : decode cX11_term 1 = .ok (.iload_n 1, 1) := by decide +kernel
theorem dX11_term_2 : decode cX11_term 2 = .ok (.invokevirtual 127, 3) := by decide +kernel
theorem dX11_term_5 : decode cX11_term 5 = .ok (.astore_n 3, 1) := by decide +kernel
theorem dX11_term_6 : decode cX11_term 6 = .ok (.aload_n 3, 1) := by decide +kernel
theorem dX11_term_7 : decode cX11_term 7 = .ok (.iload_n 2, 1) := by decide +kernel
theorem dX11_term_8 : decode cX11_term 8 = .ok (.invokestatic 196, 3) := by decide +kernel
theorem dX11_term_11 : decode cX11_term 11 = .ok (.aload_n 3, 1) := by decide +kernel
theorem dX11_term_12 : decode cX11_term 12 = .ok (.iload_n 2, 1) := by decide +kernel
theorem dX11_term_13 : decode cX11_term 13 = .ok (.invokevirtual 200, 3) := by decide +kernel
theorem dX11_term_16 : decode cX11_term 16 = .ok (.ireturn, 1) := by decide +kernel
theorem dX11_read_0 : decode cX11_read 0 = .ok (.aload_n 0, 1) := by decide +kernel
theorem dX11_read_1 : decode cX11_read 1 = .ok (.iload_n 1, 1) := by decide +kernel
theorem dX11_read_2 : decode cX11_read 2 = .ok (.invokevirtual 127, 3) := by decide +kernel
theorem dX11_read_5 : decode cX11_read 5 = .ok (.astore 4, 2) := by decide +kernel
theorem dX11_read_7 : decode cX11_read 7 = .ok (.aload 4, 2) := by decide +kernel
theorem dX11_read_9 : decode cX11_read 9 = .ok (.iload_n 2, 1) := by decide +kernel
theorem dX11_read_10 : decode cX11_read 10 = .ok (.invokestatic 196, 3) := by decide +kernel
theorem dX11_read_13 : decode cX11_read 13 = .ok (.aload 4, 2) := by decide +kernel
theorem dX11_read_15 : decode cX11_read 15 = .ok (.getfield 168, 3) := by decide +kernel
theorem dX11_read_18 : decode cX11_read 18 = .ok (.getfield 172, 3) := by decide +kernel
theorem dX11_read_21 : decode cX11_read 21 = .ok (.istore 5, 2) := by decide +kernel
theorem dX11_read_23 : decode cX11_read 23 = .ok (.iload 5, 2) := by decide +kernel
theorem dX11_read_25 : decode cX11_read 25 = .ok (.iconst 4, 1) := by decide +kernel
theorem dX11_read_26 : decode cX11_read 26 = .ok (.if_icmp .eq 23, 3) := by decide +kernel
theorem dX11_read_29 : decode cX11_read 29 = .ok (.iload_n 3, 1) := by decide +kernel
theorem dX11_read_30 : decode cX11_read 30 = .ok (.ifCond .ne 9, 3) := by decide +kernel
theorem dX11_read_33 : decode cX11_read 33 = .ok (.iload 5, 2) := by decide +kernel
theorem dX11_read_35 : decode cX11_read 35 = .ok (.iconst 3, 1) := by decide +kernel
theorem dX11_read_36 : decode cX11_read 36 = .ok (.if_icmp .eq 13, 3) := by decide +kernel
theorem dX11_read_39 : decode cX11_read 39 = .ok (.new 163, 3) := by decide +kernel
theorem dX11_read_42 : decode cX11_read 42 = .ok (.dup, 1) := by decide +kernel
theorem dX11_read_43 : decode cX11_read 43 = .ok (.ldc 203, 2) := by decide +kernel
theorem dX11_read_45 : decode cX11_read 45 = .ok (.invokespecial 167, 3) := by decide +kernel
theorem dX11_read_48 : decode cX11_read 48 = .ok (.athrow, 1) := by decide +kernel
theorem dX11_read_49 : decode cX11_read 49 = .ok (.iload_n 3, 1) := by decide +kernel
theorem dX11_read_50 : decode cX11_read 50 = .ok (.ifCond .eq 12, 3) := by decide +kernel
theorem dX11_read_53 : decode cX11_read 53 = .ok (.aload 4, 2) := by decide +kernel
theorem dX11_read_55 : decode cX11_read 55 = .ok (.iload_n 2, 1) := by decide +kernel
theorem dX11_read_56 : decode cX11_read 56 = .ok (.invokevirtual 205, 3) := by decide +kernel
theorem dX11_read_59 : decode cX11_read 59 = .ok (.goto 9, 3) := by decide +kernel
theorem dX11_read_62 : decode cX11_read 62 = .ok (.aload 4, 2) := by decide +kernel
theorem dX11_read_64 : decode cX11_read 64 = .ok (.iload_n 2, 1) := by decide +kernel
theorem dX11_read_65 : decode cX11_read 65 = .ok (.invokevirtual 208, 3) := by decide +kernel
theorem dX11_read_68 : decode cX11_read 68 = .ok (.ireturn, 1) := by decide +kernel
theorem dX11_convergent_0 : decode cX11_convergent 0 = .ok (.aload_n 0, 1) := by decide +kernel
theorem dX11_convergent_1 : decode cX11_convergent 1 = .ok (.iload_n 1, 1) := by decide +kernel
theorem dX11_convergent_2 : decode cX11_convergent 2 = .ok (.invokevirtual 127, 3) := by decide +kernel
theorem dX11_convergent_5 : decode cX11_convergent 5 = .ok (.astore 4, 2) := by decide +kernel
theorem dX11_convergent_7 : decode cX11_convergent 7 = .ok (.aload 4, 2) := by decide +kernel
theorem dX11_convergent_9 : decode cX11_convergent 9 = .ok (.iload_n 2, 1) := by decide +kernel
theorem dX11_convergent_10 : decode cX11_convergent 10 = .ok (.invokestatic 196, 3) := by decide +kernel
theorem dX11_convergent_13 : decode cX11_convergent 13 = .ok (.aload_n 0, 1) := by decide +kernel
theorem dX11_convergent_14 : decode cX11_convergent 14 = .ok (.getfield 46, 3) := by decide +kernel
theorem dX11_convergent_17 : decode cX11_convergent 17 = .ok (.aload 4, 2) := by decide +kernel
theorem dX11_convergent_19 : decode cX11_convergent 19 = .ok (.iload_n 2, 1) := by decide +kernel
theorem dX11_convergent_20 : decode cX11_convergent 20 = .ok (.invokevirtual 211, 3) := by decide +kernel
theorem dX11_convergent_23 : decode cX11_convergent 23 = .ok (.aload_n 0, 1) := by decide +kernel
theorem dX11_convergent_24 : decode cX11_convergent 24 = .ok (.getfield 46, 3) := by decide +kernel
theorem dX11_convergent_27 : decode cX11_convergent 27 = .ok (.getfield 214, 3) := by decide +kernel
theorem dX11_convergent_30 : decode cX11_convergent 30 = .ok (.ifCond .eq 7, 3) := by decide +kernel
theorem dX11_convergent_33 : decode cX11_convergent 33 = .ok (.ldc2_w 218, 3) := by decide +kernel
theorem dX11_convergent_36 : decode cX11_convergent 36 = .ok (.lreturn, 1) := by decide +kernel
theorem dX11_convergent_37 : decode cX11_convergent 37 = .ok (.iload_n 3, 1) := by decide +kernel
theorem dX11_convergent_38 : decode cX11_convergent 38 = .ok (.ifCond .eq 13, 3) := by decide +kernel
theorem dX11_convergent_41 : decode cX11_convergent 41 = .ok (.aload_n 0, 1) := by decide +kernel
theorem dX11_convergent_42 : decode cX11_convergent 42 = .ok (.getfield 46, 3) := by decide +kernel
theorem dX11_convergent_45 : decode cX11_convergent 45 = .ok (.getfield 220, 3) := by decide +kernel
theorem dX11_convergent_48 : decode cX11_convergent 48 = .ok (.goto 10, 3) := by decide +kernel
theorem dX11_convergent_51 : decode cX11_convergent 51 = .ok (.aload_n 0, 1) := by decide +kernel
theorem dX11_convergent_52 : decode cX11_convergent 52 = .ok (.getfield 46, 3) := by decide +kernel
theorem dX11_convergent_55 : decode cX11_convergent 55 = .ok (.getfield 224, 3) := by decide +kernel
theorem dX11_convergent_58 : decode cX11_convergent 58 = .ok (.lreturn, 1) := by decide +kernel
theorem dX11_nearest_0 : decode cX11_nearest 0 = .ok (.aload_n 0, 1) := by decide +kernel
theorem dX11_nearest_1 : decode cX11_nearest 1 = .ok (.iload_n 1, 1) := by decide +kernel
theorem dX11_nearest_2 : decode cX11_nearest 2 = .ok (.invokevirtual 127, 3) := by decide +kernel
theorem dX11_nearest_5 : decode cX11_nearest 5 = .ok (.astore_n 3, 1) := by decide +kernel
theorem dX11_nearest_6 : decode cX11_nearest 6 = .ok (.aload_n 3, 1) := by decide +kernel
theorem dX11_nearest_7 : decode cX11_nearest 7 = .ok (.iconst 0, 1) := by decide +kernel
theorem dX11_nearest_8 : decode cX11_nearest 8 = .ok (.invokestatic 196, 3) := by decide +kernel
theorem dX11_nearest_11 : decode cX11_nearest 11 = .ok (.iload_n 2, 1) := by decide +kernel
theorem dX11_nearest_12 : decode cX11_nearest 12 = .ok (.iconst 1, 1) := by decide +kernel
theorem dX11_nearest_13 : decode cX11_nearest 13 = .ok (.if_icmp .ge 13, 3) := by decide +kernel
theorem dX11_nearest_16 : decode cX11_nearest 16 = .ok (.new 91, 3) := by decide +kernel
theorem dX11_nearest_19 : decode cX11_nearest 19 = .ok (.dup, 1) := by decide +kernel
theorem dX11_nearest_20 : decode cX11_nearest 20 = .ok (.ldc 227, 2) := by decide +kernel
theorem dX11_nearest_22 : decode cX11_nearest 22 = .ok (.invokespecial 95, 3) := by decide +kernel
theorem dX11_nearest_25 : decode cX11_nearest 25 = .ok (.athrow, 1) := by decide +kernel
theorem dX11_nearest_26 : decode cX11_nearest 26 = .ok (.aload_n 0, 1) := by decide +kernel
theorem dX11_nearest_27 : decode cX11_nearest 27 = .ok (.getfield 46, 3) := by decide +kernel
theorem dX11_nearest_30 : decode cX11_nearest 30 = .ok (.invokevirtual 229, 3) := by decide +kernel
theorem dX11_nearest_33 : decode cX11_nearest 33 = .ok (.iconst 0, 1) := by decide +kernel
theorem dX11_nearest_34 : decode cX11_nearest 34 = .ok (.istore 4, 2) := by decide +kernel
theorem dX11_nearest_36 : decode cX11_nearest 36 = .ok (.iconst 0, 1) := by decide +kernel
theorem dX11_nearest_37 : decode cX11_nearest 37 = .ok (.istore 5, 2) := by decide +kernel
theorem dX11_nearest_39 : decode cX11_nearest 39 = .ok (.iload 5, 2) := by decide +kernel
theorem dX11_nearest_41 : decode cX11_nearest 41 = .ok (.aload_n 3, 1) := by decide +kernel
theorem dX11_nearest_42 : decode cX11_nearest 42 = .ok (.getfield 175, 3) := by decide +kernel
theorem dX11_nearest_45 : decode cX11_nearest 45 = .ok (.if_icmp .ge 52, 3) := by decide +kernel
theorem dX11_nearest_48 : decode cX11_nearest 48 = .ok (.aload_n 0, 1) := by decide +kernel
theorem dX11_nearest_49 : decode cX11_nearest 49 = .ok (.getfield 46, 3) := by decide +kernel
theorem dX11_nearest_52 : decode cX11_nearest 52 = .ok (.aload_n 3, 1) := by decide +kernel
theorem dX11_nearest_53 : decode cX11_nearest 53 = .ok (.iload 5, 2) := by decide +kernel
theorem dX11_nearest_55 : decode cX11_nearest 55 = .ok (.invokevirtual 200, 3) := by decide +kernel
theorem dX11_nearest_58 : decode cX11_nearest 58 = .ok (.invokevirtual 232, 3) := by decide +kernel
theorem dX11_nearest_61 : decode cX11_nearest 61 = .ok (.aload_n 0, 1) := by decide +kernel
theorem dX11_nearest_62 : decode cX11_nearest 62 = .ok (.getfield 46, 3) := by decide +kernel
theorem dX11_nearest_65 : decode cX11_nearest 65 = .ok (.getfield 214, 3) := by decide +kernel
theorem dX11_nearest_68 : decode cX11_nearest 68 = .ok (.ifCond .ne 29, 3) := by decide +kernel
theorem dX11_nearest_71 : decode cX11_nearest 71 = .ok (.aload_n 0, 1) := by decide +kernel
theorem dX11_nearest_72 : decode cX11_nearest 72 = .ok (.getfield 46, 3) := by decide +kernel
theorem dX11_nearest_75 : decode cX11_nearest 75 = .ok (.getfield 220, 3) := by decide +kernel
theorem dX11_nearest_78 : decode cX11_nearest 78 = .ok (.iload_n 2, 1) := by decide +kernel
theorem dX11_nearest_79 : decode cX11_nearest 79 = .ok (.i2l, 1) := by decide +kernel
theorem dX11_nearest_80 : decode cX11_nearest 80 = .ok (.lcmp, 1) := by decide +kernel
theorem dX11_nearest_81 : decode cX11_nearest 81 = .ok (.ifCond .le 6, 3) := by decide +kernel
theorem dX11_nearest_84 : decode cX11_nearest 84 = .ok (.goto 13, 3) := by decide +kernel
theorem dX11_nearest_87 : decode cX11_nearest 87 = .ok (.iload 5, 2) := by decide +kernel
theorem dX11_nearest_89 : decode cX11_nearest 89 = .ok (.istore 4, 2) := by decide +kernel
theorem dX11_nearest_91 : decode cX11_nearest 91 = .ok (.iinc 5 1, 3) := by decide +kernel
theorem dX11_nearest_94 : decode cX11_nearest 94 = .ok (.goto (-55), 3) := by decide +kernel
theorem dX11_nearest_97 : decode cX11_nearest 97 = .ok (.iload 4, 2) := by decide +kernel
theorem dX11_nearest_99 : decode cX11_nearest 99 = .ok (.ireturn, 1) := by decide +kernel
theorem dX11_mediant_0 : decode cX11_mediant 0 = .ok (.aload_n 0, 1) := by decide +kernel
theorem dX11_mediant_1 : decode cX11_mediant 1 = .ok (.iload_n 1, 1) := by decide +kernel
theorem dX11_mediant_2 : decode cX11_mediant 2 = .ok (.invokevirtual 127, 3) := by decide +kernel
theorem dX11_mediant_5 : decode cX11_mediant 5 = .ok (.astore 5, 2) := by decide +kernel
theorem dX11_mediant_7 : decode cX11_mediant 7 = .ok (.iload_n 2, 1) := by decide +kernel
theorem dX11_mediant_8 : decode cX11_mediant 8 = .ok (.ifCond .lt 30, 3) := by decide +kernel
theorem dX11_mediant_11 : decode cX11_mediant 11 = .ok (.iload_n 2, 1) := by decide +kernel
theorem dX11_mediant_12 : decode cX11_mediant 12 = .ok (.aload 5, 2) := by decide +kernel
theorem dX11_mediant_14 : decode cX11_mediant 14 = .ok (.getfield 175, 3) := by decide +kernel
theorem dX11_mediant_17 : decode cX11_mediant 17 = .ok (.iconst 2, 1) := by decide +kernel
theorem dX11_mediant_18 : decode cX11_mediant 18 = .ok (.isub, 1) := by decide +kernel
theorem dX11_mediant_19 : decode cX11_mediant 19 = .ok (.if_icmp .ge 19, 3) := by decide +kernel
theorem dX11_mediant_22 : decode cX11_mediant 22 = .ok (.iload_n 3, 1) := by decide +kernel
theorem dX11_mediant_23 : decode cX11_mediant 23 = .ok (.ifCond .lt 15, 3) := by decide +kernel
theorem dX11_mediant_26 : decode cX11_mediant 26 = .ok (.iload_n 3, 1) := by decide +kernel
theorem dX11_mediant_27 : decode cX11_mediant 27 = .ok (.aload 5, 2) := by decide +kernel
theorem dX11_mediant_29 : decode cX11_mediant 29 = .ok (.iload_n 2, 1) := by decide +kernel
theorem dX11_mediant_30 : decode cX11_mediant 30 = .ok (.iconst 2, 1) := by decide +kernel
theorem dX11_mediant_31 : decode cX11_mediant 31 = .ok (.iadd, 1) := by decide +kernel
theorem dX11_mediant_32 : decode cX11_mediant 32 = .ok (.invokevirtual 200, 3) := by decide +kernel
theorem dX11_mediant_35 : decode cX11_mediant 35 = .ok (.if_icmp .le 13, 3) := by decide +kernel
theorem dX11_mediant_38 : decode cX11_mediant 38 = .ok (.new 163, 3) := by decide +kernel
theorem dX11_mediant_41 : decode cX11_mediant 41 = .ok (.dup, 1) := by decide +kernel
theorem dX11_mediant_42 : decode cX11_mediant 42 = .ok (.ldc 235, 2) := by decide +kernel
theorem dX11_mediant_44 : decode cX11_mediant 44 = .ok (.invokespecial 167, 3) := by decide +kernel
theorem dX11_mediant_47 : decode cX11_mediant 47 = .ok (.athrow, 1) := by decide +kernel
theorem dX11_mediant_48 : decode cX11_mediant 48 = .ok (.aload_n 0, 1) := by decide +kernel
theorem dX11_mediant_49 : decode cX11_mediant 49 = .ok (.getfield 46, 3) := by decide +kernel
theorem dX11_mediant_52 : decode cX11_mediant 52 = .ok (.aload 5, 2) := by decide +kernel
theorem dX11_mediant_54 : decode cX11_mediant 54 = .ok (.iload_n 2, 1) := by decide +kernel
theorem dX11_mediant_55 : decode cX11_mediant 55 = .ok (.iconst 1, 1) := by decide +kernel
theorem dX11_mediant_56 : decode cX11_mediant 56 = .ok (.iadd, 1) := by decide +kernel
theorem dX11_mediant_57 : decode cX11_mediant 57 = .ok (.invokevirtual 211, 3) := by decide +kernel
theorem dX11_mediant_60 : decode cX11_mediant 60 = .ok (.aload_n 0, 1) := by decide +kernel
theorem dX11_mediant_61 : decode cX11_mediant 61 = .ok (.getfield 46, 3) := by decide +kernel
theorem dX11_mediant_64 : decode cX11_mediant 64 = .ok (.getfield 214, 3) := by decide +kernel
theorem dX11_mediant_67 : decode cX11_mediant 67 = .ok (.ifCond .eq 7, 3) := by decide +kernel
theorem dX11_mediant_70 : decode cX11_mediant 70 = .ok (.ldc2_w 218, 3) := by decide +kernel
theorem dX11_mediant_73 : decode cX11_mediant 73 = .ok (.lreturn, 1) := by decide +kernel
theorem dX11_mediant_74 : decode cX11_mediant 74 = .ok (.aload_n 0, 1) := by decide +kernel
theorem dX11_mediant_75 : decode cX11_mediant 75 = .ok (.getfield 46, 3) := by decide +kernel
theorem dX11_mediant_78 : decode cX11_mediant 78 = .ok (.getfield 224, 3) := by decide +kernel
theorem dX11_mediant_81 : decode cX11_mediant 81 = .ok (.iload_n 3, 1) := by decide +kernel
theorem dX11_mediant_82 : decode cX11_mediant 82 = .ok (.i2l, 1) := by decide +kernel
theorem dX11_mediant_83 : decode cX11_mediant 83 = .ok (.aload_n 0, 1) := by decide +kernel
theorem dX11_mediant_84 : decode cX11_mediant 84 = .ok (.getfield 46, 3) := by decide +kernel
theorem dX11_mediant_87 : decode cX11_mediant 87 = .ok (.getfield 237, 3) := by decide +kernel
theorem dX11_mediant_90 : decode cX11_mediant 90 = .ok (.invokestatic 240, 3) := by decide +kernel
theorem dX11_mediant_93 : decode cX11_mediant 93 = .ok (.lstore 6, 2) := by decide +kernel
theorem dX11_mediant_95 : decode cX11_mediant 95 = .ok (.aload_n 0, 1) := by decide +kernel
theorem dX11_mediant_96 : decode cX11_mediant 96 = .ok (.getfield 46, 3) := by decide +kernel
theorem dX11_mediant_99 : decode cX11_mediant 99 = .ok (.getfield 220, 3) := by decide +kernel
theorem dX11_mediant_102 : decode cX11_mediant 102 = .ok (.iload_n 3, 1) := by decide +kernel
theorem dX11_mediant_103 : decode cX11_mediant 103 = .ok (.i2l, 1) := by decide +kernel
theorem dX11_mediant_104 : decode cX11_mediant 104 = .ok (.aload_n 0, 1) := by decide +kernel
theorem dX11_mediant_105 : decode cX11_mediant 105 = .ok (.getfield 46, 3) := by decide +kernel
theorem dX11_mediant_108 : decode cX11_mediant 108 = .ok (.getfield 244, 3) := by decide +kernel
theorem dX11_mediant_111 : decode cX11_mediant 111 = .ok (.invokestatic 240, 3) := by decide +kernel
theorem dX11_mediant_114 : decode cX11_mediant 114 = .ok (.lstore 8, 2) := by decide +kernel
theorem dX11_mediant_116 : decode cX11_mediant 116 = .ok (.lload 6, 2) := by decide +kernel
theorem dX11_mediant_118 : decode cX11_mediant 118 = .ok (.ldc2_w 247, 3) := by decide +kernel
theorem dX11_mediant_121 : decode cX11_mediant 121 = .ok (.lcmp, 1) := by decide +kernel
theorem dX11_mediant_122 : decode cX11_mediant 122 = .ok (.ifCond .eq 12, 3) := by decide +kernel
theorem dX11_mediant_125 : decode cX11_mediant 125 = .ok (.lload 8, 2) := by decide +kernel
theorem dX11_mediant_127 : decode cX11_mediant 127 = .ok (.ldc2_w 247, 3) := by decide +kernel
theorem dX11_mediant_130 : decode cX11_mediant 130 = .ok (.lcmp, 1) := by decide +kernel
theorem dX11_mediant_131 : decode cX11_mediant 131 = .ok (.ifCond .ne 7, 3) := by decide +kernel
theorem dX11_mediant_134 : decode cX11_mediant 134 = .ok (.ldc2_w 218, 3) := by decide +kernel
theorem dX11_mediant_137 : decode cX11_mediant 137 = .ok (.lreturn, 1) := by decide +kernel
theorem dX11_mediant_138 : decode cX11_mediant 138 = .ok (.iload 4, 2) := by decide +kernel
theorem dX11_mediant_140 : decode cX11_mediant 140 = .ok (.ifCond .eq 8, 3) := by decide +kernel
theorem dX11_mediant_143 : decode cX11_mediant 143 = .ok (.lload 8, 2) := by decide +kernel
theorem dX11_mediant_145 : decode cX11_mediant 145 = .ok (.goto 5, 3) := by decide +kernel
theorem dX11_mediant_148 : decode cX11_mediant 148 = .ok (.lload 6, 2) := by decide +kernel
theorem dX11_mediant_150 : decode cX11_mediant 150 = .ok (.lreturn, 1) := by decide +kernel
theorem dX11_compare_0 : decode cX11_compare 0 = .ok (.aload_n 0, 1) := by decide +kernel
theorem dX11_compare_1 : decode cX11_compare 1 = .ok (.iload_n 1, 1) := by decide +kernel
theorem dX11_compare_2 : decode cX11_compare 2 = .ok (.invokevirtual 127, 3) := by decide +kernel
theorem dX11_compare_5 : decode cX11_compare 5 = .ok (.astore_n 3, 1) := by decide +kernel
theorem dX11_compare_6 : decode cX11_compare 6 = .ok (.aload_n 0, 1) := by decide +kernel
theorem dX11_compare_7 : decode cX11_compare 7 = .ok (.iload_n 2, 1) := by decide +kernel
theorem dX11_compare_8 : decode cX11_compare 8 = .ok (.invokevirtual 127, 3) := by decide +kernel
theorem dX11_compare_11 : decode cX11_compare 11 = .ok (.astore 4, 2) := by decide +kernel
theorem dX11_compare_13 : decode cX11_compare 13 = .ok (.aload_n 3, 1) := by decide +kernel
theorem dX11_compare_14 : decode cX11_compare 14 = .ok (.aload 4, 2) := by decide +kernel
theorem dX11_compare_16 : decode cX11_compare 16 = .ok (.invokestatic 249, 3) := by decide +kernel
theorem dX11_compare_19 : decode cX11_compare 19 = .ok (.istore 5, 2) := by decide +kernel
theorem dX11_compare_21 : decode cX11_compare 21 = .ok (.aload_n 3, 1) := by decide +kernel
theorem dX11_compare_22 : decode cX11_compare 22 = .ok (.iload 5, 2) := by decide +kernel
theorem dX11_compare_24 : decode cX11_compare 24 = .ok (.invokevirtual 253, 3) := by decide +kernel
theorem dX11_compare_27 : decode cX11_compare 27 = .ok (.ifCond .ne 13, 3) := by decide +kernel
theorem dX11_compare_30 : decode cX11_compare 30 = .ok (.aload 4, 2) := by decide +kernel
theorem dX11_compare_32 : decode cX11_compare 32 = .ok (.iload 5, 2) := by decide +kernel
theorem dX11_compare_34 : decode cX11_compare 34 = .ok (.invokevirtual 253, 3) := by decide +kernel
theorem dX11_compare_37 : decode cX11_compare 37 = .ok (.ifCond .eq 6, 3) := by decide +kernel
theorem dX11_compare_40 : decode cX11_compare 40 = .ok (.bipush (-2), 2) := by decide +kernel
theorem dX11_compare_42 : decode cX11_compare 42 = .ok (.ireturn, 1) := by decide +kernel
theorem dX11_compare_43 : decode cX11_compare 43 = .ok (.aload_n 3, 1) := by decide +kernel
theorem dX11_compare_44 : decode cX11_compare 44 = .ok (.iload 5, 2) := by decide +kernel
theorem dX11_compare_46 : decode cX11_compare 46 = .ok (.invokevirtual 257, 3) := by decide +kernel
theorem dX11_compare_49 : decode cX11_compare 49 = .ok (.ifCond .ne 7, 3) := by decide +kernel
theorem dX11_compare_52 : decode cX11_compare 52 = .ok (.iconst 1, 1) := by decide +kernel
theorem dX11_compare_53 : decode cX11_compare 53 = .ok (.goto 4, 3) := by decide +kernel
theorem dX11_compare_56 : decode cX11_compare 56 = .ok (.iconst 0, 1) := by decide +kernel
theorem dX11_compare_57 : decode cX11_compare 57 = .ok (.istore 6, 2) := by decide +kernel
theorem dX11_compare_59 : decode cX11_compare 59 = .ok (.aload 4, 2) := by decide +kernel
theorem dX11_compare_61 : decode cX11_compare 61 = .ok (.iload 5, 2) := by decide +kernel
theorem dX11_compare_63 : decode cX11_compare 63 = .ok (.invokevirtual 257, 3) := by decide +kernel
theorem dX11_compare_66 : decode cX11_compare 66 = .ok (.ifCond .ne 7, 3) := by decide +kernel
theorem dX11_compare_69 : decode cX11_compare 69 = .ok (.iconst 1, 1) := by decide +kernel
theorem dX11_compare_70 : decode cX11_compare 70 = .ok (.goto 4, 3) := by decide +kernel
theorem dX11_compare_73 : decode cX11_compare 73 = .ok (.iconst 0, 1) := by decide +kernel
theorem dX11_compare_74 : decode cX11_compare 74 = .ok (.istore 7, 2) := by decide +kernel
theorem dX11_compare_76 : decode cX11_compare 76 = .ok (.iload 6, 2) := by decide +kernel
theorem dX11_compare_78 : decode cX11_compare 78 = .ok (.ifCond .eq 10, 3) := by decide +kernel
theorem dX11_compare_81 : decode cX11_compare 81 = .ok (.iload 7, 2) := by decide +kernel
theorem dX11_compare_83 : decode cX11_compare 83 = .ok (.ifCond .eq 5, 3) := by decide +kernel
theorem dX11_compare_86 : decode cX11_compare 86 = .ok (.iconst 0, 1) := by decide +kernel
theorem dX11_compare_87 : decode cX11_compare 87 = .ok (.ireturn, 1) := by decide +kernel
theorem dX11_compare_88 : decode cX11_compare 88 = .ok (.iload 6, 2) := by decide +kernel
theorem dX11_compare_90 : decode cX11_compare 90 = .ok (.ifCond .ne 28, 3) := by decide +kernel
theorem dX11_compare_93 : decode cX11_compare 93 = .ok (.iload 7, 2) := by decide +kernel
theorem dX11_compare_95 : decode cX11_compare 95 = .ok (.ifCond .ne 19, 3) := by decide +kernel
theorem dX11_compare_98 : decode cX11_compare 98 = .ok (.aload_n 3, 1) := by decide +kernel
theorem dX11_compare_99 : decode cX11_compare 99 = .ok (.iload 5, 2) := by decide +kernel
theorem dX11_compare_101 : decode cX11_compare 101 = .ok (.invokevirtual 200, 3) := by decide +kernel
theorem dX11_compare_104 : decode cX11_compare 104 = .ok (.aload 4, 2) := by decide +kernel
theorem dX11_compare_106 : decode cX11_compare 106 = .ok (.iload 5, 2) := by decide +kernel
theorem dX11_compare_108 : decode cX11_compare 108 = .ok (.invokevirtual 200, 3) := by decide +kernel
theorem dX11_compare_111 : decode cX11_compare 111 = .ok (.if_icmp .ge 7, 3) := by decide +kernel
theorem dX11_compare_114 : decode cX11_compare 114 = .ok (.iconst 1, 1) := by decide +kernel
theorem dX11_compare_115 : decode cX11_compare 115 = .ok (.goto 4, 3) := by decide +kernel
theorem dX11_compare_118 : decode cX11_compare 118 = .ok (.iconst 0, 1) := by decide +kernel
theorem dX11_compare_119 : decode cX11_compare 119 = .ok (.istore 8, 2) := by decide +kernel
theorem dX11_compare_121 : decode cX11_compare 121 = .ok (.iload 8, 2) := by decide +kernel
theorem dX11_compare_123 : decode cX11_compare 123 = .ok (.iload 5, 2) := by decide +kernel
theorem dX11_compare_125 : decode cX11_compare 125 = .ok (.iconst 2, 1) := by decide +kernel
theorem dX11_compare_126 : decode cX11_compare 126 = .ok (.irem, 1) := by decide +kernel
theorem dX11_compare_127 : decode cX11_compare 127 = .ok (.ifCond .ne 7, 3) := by decide +kernel
theorem dX11_compare_130 : decode cX11_compare 130 = .ok (.iconst 1, 1) := by decide +kernel
theorem dX11_compare_131 : decode cX11_compare 131 = .ok (.goto 4, 3) := by decide +kernel
theorem dX11_compare_134 : decode cX11_compare 134 = .ok (.iconst 0, 1) := by decide +kernel
theorem dX11_compare_135 : decode cX11_compare 135 = .ok (.if_icmp .ne 7, 3) := by decide +kernel
theorem dX11_compare_138 : decode cX11_compare 138 = .ok (.iconst (-1), 1) := by decide +kernel
theorem dX11_compare_139 : decode cX11_compare 139 = .ok (.goto 4, 3) := by decide +kernel
theorem dX11_compare_142 : decode cX11_compare 142 = .ok (.iconst 1, 1) := by decide +kernel
theorem dX11_compare_143 : decode cX11_compare 143 = .ok (.ireturn, 1) := by decide +kernel
theorem dX11_alike_0 : decode cX11_alike 0 = .ok (.aload_n 0, 1) := by decide +kernel
theorem dX11_alike_1 : decode cX11_alike 1 = .ok (.iload_n 1, 1) := by decide +kernel
theorem dX11_alike_2 : decode cX11_alike 2 = .ok (.invokevirtual 127, 3) := by decide +kernel
theorem dX11_alike_5 : decode cX11_alike 5 = .ok (.aload_n 0, 1) := by decide +kernel
theorem dX11_alike_6 : decode cX11_alike 6 = .ok (.iload_n 2, 1) := by decide +kernel
theorem dX11_alike_7 : decode cX11_alike 7 = .ok (.invokevirtual 127, 3) := by decide +kernel
theorem dX11_alike_10 : decode cX11_alike 10 = .ok (.invokestatic 249, 3) := by decide +kernel
theorem dX11_alike_13 : decode cX11_alike 13 = .ok (.ireturn, 1) := by decide +kernel
theorem dX11_again_0 : decode cX11_again 0 = .ok (.aload_n 0, 1) := by decide +kernel
theorem dX11_again_1 : decode cX11_again 1 = .ok (.iload_n 1, 1) := by decide +kernel
theorem dX11_again_2 : decode cX11_again 2 = .ok (.invokevirtual 127, 3) := by decide +kernel
theorem dX11_again_5 : decode cX11_again 5 = .ok (.astore_n 3, 1) := by decide +kernel
theorem dX11_again_6 : decode cX11_again 6 = .ok (.iload_n 2, 1) := by decide +kernel
theorem dX11_again_7 : decode cX11_again 7 = .ok (.ifCond .eq 19, 3) := by decide +kernel
theorem dX11_again_10 : decode cX11_again 10 = .ok (.iload_n 2, 1) := by decide +kernel
theorem dX11_again_11 : decode cX11_again 11 = .ok (.iconst 1, 1) := by decide +kernel
theorem dX11_again_12 : decode cX11_again 12 = .ok (.if_icmp .eq 14, 3) := by decide +kernel
theorem dX11_again_15 : decode cX11_again 15 = .ok (.new 163, 3) := by decide +kernel
theorem dX11_again_18 : decode cX11_again 18 = .ok (.dup, 1) := by decide +kernel
theorem dX11_again_19 : decode cX11_again 19 = .ok (.ldc_w 260, 3) := by decide +kernel
theorem dX11_again_22 : decode cX11_again 22 = .ok (.invokespecial 167, 3) := by decide +kernel
theorem dX11_again_25 : decode cX11_again 25 = .ok (.athrow, 1) := by decide +kernel
theorem dX11_again_26 : decode cX11_again 26 = .ok (.aload_n 3, 1) := by decide +kernel
theorem dX11_again_27 : decode cX11_again 27 = .ok (.invokestatic 262, 3) := by decide +kernel
theorem dX11_again_30 : decode cX11_again 30 = .ok (.iload_n 2, 1) := by decide +kernel
theorem dX11_again_31 : decode cX11_again 31 = .ok (.invokestatic 265, 3) := by decide +kernel
theorem dX11_again_34 : decode cX11_again 34 = .ok (.ireturn, 1) := by decide +kernel
theorem dX11_tails_0 : decode cX11_tails 0 = .ok (.aload_n 0, 1) := by decide +kernel
theorem dX11_tails_1 : decode cX11_tails 1 = .ok (.iload_n 1, 1) := by decide +kernel
theorem dX11_tails_2 : decode cX11_tails 2 = .ok (.invokevirtual 127, 3) := by decide +kernel
theorem dX11_tails_5 : decode cX11_tails 5 = .ok (.astore 4, 2) := by decide +kernel
theorem dX11_tails_7 : decode cX11_tails 7 = .ok (.aload_n 0, 1) := by decide +kernel
theorem dX11_tails_8 : decode cX11_tails 8 = .ok (.iload_n 2, 1) := by decide +kernel
theorem dX11_tails_9 : decode cX11_tails 9 = .ok (.invokevirtual 127, 3) := by decide +kernel
theorem dX11_tails_12 : decode cX11_tails 12 = .ok (.astore 5, 2) := by decide +kernel
theorem dX11_tails_14 : decode cX11_tails 14 = .ok (.iload_n 3, 1) := by decide +kernel
theorem dX11_tails_15 : decode cX11_tails 15 = .ok (.ifCond .eq 19, 3) := by decide +kernel
theorem dX11_tails_18 : decode cX11_tails 18 = .ok (.iload_n 3, 1) := by decide +kernel
theorem dX11_tails_19 : decode cX11_tails 19 = .ok (.iconst 1, 1) := by decide +kernel
theorem dX11_tails_20 : decode cX11_tails 20 = .ok (.if_icmp .eq 14, 3) := by decide +kernel
theorem dX11_tails_23 : decode cX11_tails 23 = .ok (.new 163, 3) := by decide +kernel
theorem dX11_tails_26 : decode cX11_tails 26 = .ok (.dup, 1) := by decide +kernel
theorem dX11_tails_27 : decode cX11_tails 27 = .ok (.ldc_w 269, 3) := by decide +kernel
theorem dX11_tails_30 : decode cX11_tails 30 = .ok (.invokespecial 167, 3) := by decide +kernel
theorem dX11_tails_33 : decode cX11_tails 33 = .ok (.athrow, 1) := by decide +kernel
theorem dX11_tails_34 : decode cX11_tails 34 = .ok (.aload 4, 2) := by decide +kernel
theorem dX11_tails_36 : decode cX11_tails 36 = .ok (.aload 5, 2) := by decide +kernel
theorem dX11_tails_38 : decode cX11_tails 38 = .ok (.invokestatic 271, 3) := by decide +kernel
theorem dX11_tails_41 : decode cX11_tails 41 = .ok (.iload_n 3, 1) := by decide +kernel
theorem dX11_tails_42 : decode cX11_tails 42 = .ok (.invokestatic 265, 3) := by decide +kernel
theorem dX11_tails_45 : decode cX11_tails 45 = .ok (.ireturn, 1) := by decide +kernel
theorem dX11_floor_0 : decode cX11_floor 0 = .ok (.aload_n 0, 1) := by decide +kernel
theorem dX11_floor_1 : decode cX11_floor 1 = .ok (.iload_n 1, 1) := by decide +kernel
theorem dX11_floor_2 : decode cX11_floor 2 = .ok (.invokevirtual 127, 3) := by decide +kernel
theorem dX11_floor_5 : decode cX11_floor 5 = .ok (.astore_n 3, 1) := by decide +kernel
theorem dX11_floor_6 : decode cX11_floor 6 = .ok (.iload_n 2, 1) := by decide +kernel
theorem dX11_floor_7 : decode cX11_floor 7 = .ok (.iconst 1, 1) := by decide +kernel
theorem dX11_floor_8 : decode cX11_floor 8 = .ok (.if_icmp .lt 10, 3) := by decide +kernel
theorem dX11_floor_11 : decode cX11_floor 11 = .ok (.iload_n 2, 1) := by decide +kernel
theorem dX11_floor_12 : decode cX11_floor 12 = .ok (.sipush 9999, 3) := by decide +kernel
theorem dX11_floor_15 : decode cX11_floor 15 = .ok (.if_icmp .le 14, 3) := by decide +kernel
theorem dX11_floor_18 : decode cX11_floor 18 = .ok (.new 91, 3) := by decide +kernel
theorem dX11_floor_21 : decode cX11_floor 21 = .ok (.dup, 1) := by decide +kernel
theorem dX11_floor_22 : decode cX11_floor 22 = .ok (.ldc_w 274, 3) := by decide +kernel
theorem dX11_floor_25 : decode cX11_floor 25 = .ok (.invokespecial 95, 3) := by decide +kernel
theorem dX11_floor_28 : decode cX11_floor 28 = .ok (.athrow, 1) := by decide +kernel
theorem dX11_floor_29 : decode cX11_floor 29 = .ok (.aload_n 0, 1) := by decide +kernel
theorem dX11_floor_30 : decode cX11_floor 30 = .ok (.getfield 32, 3) := by decide +kernel
theorem dX11_floor_33 : decode cX11_floor 33 = .ok (.aload_n 3, 1) := by decide +kernel
theorem dX11_floor_34 : decode cX11_floor 34 = .ok (.iload_n 2, 1) := by decide +kernel
theorem dX11_floor_35 : decode cX11_floor 35 = .ok (.iconst 0, 1) := by decide +kernel
theorem dX11_floor_36 : decode cX11_floor 36 = .ok (.iconst 0, 1) := by decide +kernel
theorem dX11_floor_37 : decode cX11_floor 37 = .ok (.iconst 1, 1) := by decide +kernel
theorem dX11_floor_38 : decode cX11_floor 38 = .ok (.invokevirtual 276, 3) := by decide +kernel
theorem dX11_floor_41 : decode cX11_floor 41 = .ok (.aload_n 0, 1) := by decide +kernel
theorem dX11_floor_42 : decode cX11_floor 42 = .ok (.iconst 0, 1) := by decide +kernel
theorem dX11_floor_43 : decode cX11_floor 43 = .ok (.invokevirtual 280, 3) := by decide +kernel
theorem dX11_floor_46 : decode cX11_floor 46 = .ok (.ireturn, 1) := by decide +kernel
theorem dX11_would_0 : decode cX11_would 0 = .ok (.aload_n 0, 1) := by decide +kernel
theorem dX11_would_1 : decode cX11_would 1 = .ok (.iload_n 1, 1) := by decide +kernel
theorem dX11_would_2 : decode cX11_would 2 = .ok (.invokevirtual 127, 3) := by decide +kernel
theorem dX11_would_5 : decode cX11_would 5 = .ok (.astore 7, 2) := by decide +kernel
theorem dX11_would_7 : decode cX11_would 7 = .ok (.iload_n 2, 1) := by decide +kernel
theorem dX11_would_8 : decode cX11_would 8 = .ok (.ifCond .lt 9, 3) := by decide +kernel
theorem dX11_would_11 : decode cX11_would 11 = .ok (.iload_n 2, 1) := by decide +kernel
theorem dX11_would_12 : decode cX11_would 12 = .ok (.bipush 60, 2) := by decide +kernel
theorem dX11_would_14 : decode cX11_would 14 = .ok (.if_icmp .lt 14, 3) := by decide +kernel
theorem dX11_would_17 : decode cX11_would 17 = .ok (.new 163, 3) := by decide +kernel
theorem dX11_would_20 : decode cX11_would 20 = .ok (.dup, 1) := by decide +kernel
theorem dX11_would_21 : decode cX11_would 21 = .ok (.ldc_w 283, 3) := by decide +kernel
theorem dX11_would_24 : decode cX11_would 24 = .ok (.invokespecial 167, 3) := by decide +kernel
theorem dX11_would_27 : decode cX11_would 27 = .ok (.athrow, 1) := by decide +kernel
theorem dX11_would_28 : decode cX11_would 28 = .ok (.iload_n 3, 1) := by decide +kernel
theorem dX11_would_29 : decode cX11_would 29 = .ok (.iload 4, 2) := by decide +kernel
theorem dX11_would_31 : decode cX11_would 31 = .ok (.iload 5, 2) := by decide +kernel
theorem dX11_would_33 : decode cX11_would 33 = .ok (.iload 6, 2) := by decide +kernel
theorem dX11_would_35 : decode cX11_would 35 = .ok (.invokestatic 141, 3) := by decide +kernel
theorem dX11_would_38 : decode cX11_would 38 = .ok (.ifCond .ne 14, 3) := by decide +kernel
theorem dX11_would_41 : decode cX11_would 41 = .ok (.new 91, 3) := by decide +kernel
theorem dX11_would_44 : decode cX11_would 44 = .ok (.dup, 1) := by decide +kernel
theorem dX11_would_45 : decode cX11_would 45 = .ok (.ldc_w 285, 3) := by decide +kernel
theorem dX11_would_48 : decode cX11_would 48 = .ok (.invokespecial 95, 3) := by decide +kernel
theorem dX11_would_51 : decode cX11_would 51 = .ok (.athrow, 1) := by decide +kernel
theorem dX11_would_52 : decode cX11_would 52 = .ok (.aload_n 0, 1) := by decide +kernel
theorem dX11_would_53 : decode cX11_would 53 = .ok (.getfield 32, 3) := by decide +kernel
theorem dX11_would_56 : decode cX11_would 56 = .ok (.aload 7, 2) := by decide +kernel
theorem dX11_would_58 : decode cX11_would 58 = .ok (.iload_n 3, 1) := by decide +kernel
theorem dX11_would_59 : decode cX11_would 59 = .ok (.iload 4, 2) := by decide +kernel
theorem dX11_would_61 : decode cX11_would 61 = .ok (.iload 5, 2) := by decide +kernel
theorem dX11_would_63 : decode cX11_would 63 = .ok (.iload 6, 2) := by decide +kernel
theorem dX11_would_65 : decode cX11_would 65 = .ok (.invokevirtual 276, 3) := by decide +kernel
theorem dX11_would_68 : decode cX11_would 68 = .ok (.aload_n 0, 1) := by decide +kernel
theorem dX11_would_69 : decode cX11_would 69 = .ok (.iload_n 2, 1) := by decide +kernel
theorem dX11_would_70 : decode cX11_would 70 = .ok (.invokevirtual 280, 3) := by decide +kernel
theorem dX11_would_73 : decode cX11_would 73 = .ok (.ireturn, 1) := by decide +kernel
theorem dX11_often_0 : decode cX11_often 0 = .ok (.aload_n 0, 1) := by decide +kernel
theorem dX11_often_1 : decode cX11_often 1 = .ok (.iload_n 1, 1) := by decide +kernel
theorem dX11_often_2 : decode cX11_often 2 = .ok (.invokevirtual 127, 3) := by decide +kernel
theorem dX11_often_5 : decode cX11_often 5 = .ok (.astore_n 3, 1) := by decide +kernel
theorem dX11_often_6 : decode cX11_often 6 = .ok (.iconst 0, 1) := by decide +kernel
theorem dX11_often_7 : decode cX11_often 7 = .ok (.istore 4, 2) := by decide +kernel
theorem dX11_often_9 : decode cX11_often 9 = .ok (.iconst 1, 1) := by decide +kernel
theorem dX11_often_10 : decode cX11_often 10 = .ok (.istore 5, 2) := by decide +kernel
theorem dX11_often_12 : decode cX11_often 12 = .ok (.iload 5, 2) := by decide +kernel
theorem dX11_often_14 : decode cX11_often 14 = .ok (.aload_n 3, 1) := by decide +kernel
theorem dX11_often_15 : decode cX11_often 15 = .ok (.getfield 175, 3) := by decide +kernel
theorem dX11_often_18 : decode cX11_often 18 = .ok (.if_icmp .ge 22, 3) := by decide +kernel
theorem dX11_often_21 : decode cX11_often 21 = .ok (.aload_n 3, 1) := by decide +kernel
theorem dX11_often_22 : decode cX11_often 22 = .ok (.iload 5, 2) := by decide +kernel
theorem dX11_often_24 : decode cX11_often 24 = .ok (.invokevirtual 200, 3) := by decide +kernel
theorem dX11_often_27 : decode cX11_often 27 = .ok (.iload_n 2, 1) := by decide +kernel
theorem dX11_often_28 : decode cX11_often 28 = .ok (.if_icmp .ne 6, 3) := by decide +kernel
theorem dX11_often_31 : decode cX11_often 31 = .ok (.iinc 4 1, 3) := by decide +kernel
theorem dX11_often_34 : decode cX11_often 34 = .ok (.iinc 5 1, 3) := by decide +kernel
theorem dX11_often_37 : decode cX11_often 37 = .ok (.goto (-25), 3) := by decide +kernel
theorem dX11_often_40 : decode cX11_often 40 = .ok (.iload 4, 2) := by decide +kernel
theorem dX11_often_42 : decode cX11_often 42 = .ok (.ireturn, 1) := by decide +kernel
theorem dX11_left_0 : decode cX11_left 0 = .ok (.aload_n 0, 1) := by decide +kernel
theorem dX11_left_1 : decode cX11_left 1 = .ok (.iload_n 1, 1) := by decide +kernel
theorem dX11_left_2 : decode cX11_left 2 = .ok (.invokevirtual 87, 3) := by decide +kernel
theorem dX11_left_5 : decode cX11_left 5 = .ok (.astore 4, 2) := by decide +kernel
theorem dX11_left_7 : decode cX11_left 7 = .ok (.aload 4, 2) := by decide +kernel
theorem dX11_left_9 : decode cX11_left 9 = .ok (.ifnull 30, 3) := by decide +kernel
theorem dX11_left_12 : decode cX11_left 12 = .ok (.aload 4, 2) := by decide +kernel
theorem dX11_left_14 : decode cX11_left 14 = .ok (.getfield 168, 3) := by decide +kernel
theorem dX11_left_17 : decode cX11_left 17 = .ok (.getfield 172, 3) := by decide +kernel
theorem dX11_left_20 : decode cX11_left 20 = .ok (.iconst 1, 1) := by decide +kernel
theorem dX11_left_21 : decode cX11_left 21 = .ok (.if_icmp .ne 18, 3) := by decide +kernel
theorem dX11_left_24 : decode cX11_left 24 = .ok (.aload 4, 2) := by decide +kernel
theorem dX11_left_26 : decode cX11_left 26 = .ok (.getfield 168, 3) := by decide +kernel
theorem dX11_left_29 : decode cX11_left 29 = .ok (.getfield 287, 3) := by decide +kernel
theorem dX11_left_32 : decode cX11_left 32 = .ok (.i2l, 1) := by decide +kernel
theorem dX11_left_33 : decode cX11_left 33 = .ok (.invokestatic 290, 3) := by decide +kernel
theorem dX11_left_36 : decode cX11_left 36 = .ok (.ifCond .eq 14, 3) := by decide +kernel
theorem dX11_left_39 : decode cX11_left 39 = .ok (.new 163, 3) := by decide +kernel
theorem dX11_left_42 : decode cX11_left 42 = .ok (.dup, 1) := by decide +kernel
theorem dX11_left_43 : decode cX11_left 43 = .ok (.ldc_w 294, 3) := by decide +kernel
theorem dX11_left_46 : decode cX11_left 46 = .ok (.invokespecial 167, 3) := by decide +kernel
theorem dX11_left_49 : decode cX11_left 49 = .ok (.athrow, 1) := by decide +kernel
theorem dX11_left_50 : decode cX11_left 50 = .ok (.iload_n 2, 1) := by decide +kernel
theorem dX11_left_51 : decode cX11_left 51 = .ok (.ifCond .lt 18, 3) := by decide +kernel
theorem dX11_left_54 : decode cX11_left 54 = .ok (.iload_n 2, 1) := by decide +kernel
theorem dX11_left_55 : decode cX11_left 55 = .ok (.bipush 60, 2) := by decide +kernel
theorem dX11_left_57 : decode cX11_left 57 = .ok (.if_icmp .ge 12, 3) := by decide +kernel
theorem dX11_left_60 : decode cX11_left 60 = .ok (.iload_n 3, 1) := by decide +kernel
theorem dX11_left_61 : decode cX11_left 61 = .ok (.ifCond .eq 19, 3) := by decide +kernel
theorem dX11_left_64 : decode cX11_left 64 = .ok (.iload_n 3, 1) := by decide +kernel
theorem dX11_left_65 : decode cX11_left 65 = .ok (.iconst 1, 1) := by decide +kernel
theorem dX11_left_66 : decode cX11_left 66 = .ok (.if_icmp .eq 14, 3) := by decide +kernel
theorem dX11_left_69 : decode cX11_left 69 = .ok (.new 163, 3) := by decide +kernel
theorem dX11_left_72 : decode cX11_left 72 = .ok (.dup, 1) := by decide +kernel
theorem dX11_left_73 : decode cX11_left 73 = .ok (.ldc_w 296, 3) := by decide +kernel
theorem dX11_left_76 : decode cX11_left 76 = .ok (.invokespecial 167, 3) := by decide +kernel
theorem dX11_left_79 : decode cX11_left 79 = .ok (.athrow, 1) := by decide +kernel
theorem dX11_left_80 : decode cX11_left 80 = .ok (.aload_n 0, 1) := by decide +kernel
theorem dX11_left_81 : decode cX11_left 81 = .ok (.getfield 39, 3) := by decide +kernel
theorem dX11_left_84 : decode cX11_left 84 = .ok (.aload 4, 2) := by decide +kernel
theorem dX11_left_86 : decode cX11_left 86 = .ok (.getfield 168, 3) := by decide +kernel
theorem dX11_left_89 : decode cX11_left 89 = .ok (.getfield 298, 3) := by decide +kernel
theorem dX11_left_92 : decode cX11_left 92 = .ok (.i2l, 1) := by decide +kernel
theorem dX11_left_93 : decode cX11_left 93 = .ok (.aload 4, 2) := by decide +kernel
theorem dX11_left_95 : decode cX11_left 95 = .ok (.getfield 168, 3) := by decide +kernel
theorem dX11_left_98 : decode cX11_left 98 = .ok (.getfield 287, 3) := by decide +kernel
theorem dX11_left_101 : decode cX11_left 101 = .ok (.i2l, 1) := by decide +kernel
theorem dX11_left_102 : decode cX11_left 102 = .ok (.aload 4, 2) := by decide +kernel
theorem dX11_left_104 : decode cX11_left 104 = .ok (.getfield 168, 3) := by decide +kernel
theorem dX11_left_107 : decode cX11_left 107 = .ok (.getfield 301, 3) := by decide +kernel
theorem dX11_left_110 : decode cX11_left 110 = .ok (.i2l, 1) := by decide +kernel
theorem dX11_left_111 : decode cX11_left 111 = .ok (.invokevirtual 304, 3) := by decide +kernel
theorem dX11_left_114 : decode cX11_left 114 = .ok (.iconst 0, 1) := by decide +kernel
theorem dX11_left_115 : decode cX11_left 115 = .ok (.istore 5, 2) := by decide +kernel
theorem dX11_left_117 : decode cX11_left 117 = .ok (.iload 5, 2) := by decide +kernel
theorem dX11_left_119 : decode cX11_left 119 = .ok (.iload_n 2, 1) := by decide +kernel
theorem dX11_left_120 : decode cX11_left 120 = .ok (.if_icmp .ge 23, 3) := by decide +kernel
theorem dX11_left_123 : decode cX11_left 123 = .ok (.aload_n 0, 1) := by decide +kernel
theorem dX11_left_124 : decode cX11_left 124 = .ok (.getfield 39, 3) := by decide +kernel
theorem dX11_left_127 : decode cX11_left 127 = .ok (.aload_n 0, 1) := by decide +kernel
theorem dX11_left_128 : decode cX11_left 128 = .ok (.getfield 39, 3) := by decide +kernel
theorem dX11_left_131 : decode cX11_left 131 = .ok (.invokevirtual 307, 3) := by decide +kernel
theorem dX11_left_134 : decode cX11_left 134 = .ok (.invokevirtual 311, 3) := by decide +kernel
theorem dX11_left_137 : decode cX11_left 137 = .ok (.iinc 5 1, 3) := by decide +kernel
theorem dX11_left_140 : decode cX11_left 140 = .ok (.goto (-23), 3) := by decide +kernel
theorem dX11_left_143 : decode cX11_left 143 = .ok (.iload_n 3, 1) := by decide +kernel
theorem dX11_left_144 : decode cX11_left 144 = .ok (.ifCond .ne 13, 3) := by decide +kernel
theorem dX11_left_147 : decode cX11_left 147 = .ok (.aload_n 0, 1) := by decide +kernel
theorem dX11_left_148 : decode cX11_left 148 = .ok (.getfield 39, 3) := by decide +kernel
theorem dX11_left_151 : decode cX11_left 151 = .ok (.getfield 315, 3) := by decide +kernel
theorem dX11_left_154 : decode cX11_left 154 = .ok (.goto 10, 3) := by decide +kernel
theorem dX11_left_157 : decode cX11_left 157 = .ok (.aload_n 0, 1) := by decide +kernel
theorem dX11_left_158 : decode cX11_left 158 = .ok (.getfield 39, 3) := by decide +kernel
theorem dX11_left_161 : decode cX11_left 161 = .ok (.getfield 318, 3) := by decide +kernel
theorem dX11_left_164 : decode cX11_left 164 = .ok (.l2i, 1) := by decide +kernel
theorem dX11_left_165 : decode cX11_left 165 = .ok (.ireturn, 1) := by decide +kernel
theorem dX11_say_0 : decode cX11_say 0 = .ok (.aload_n 0, 1) := by decide +kernel
theorem dX11_say_1 : decode cX11_say 1 = .ok (.iload_n 1, 1) := by decide +kernel
theorem dX11_say_2 : decode cX11_say 2 = .ok (.invokevirtual 127, 3) := by decide +kernel
theorem dX11_say_5 : decode cX11_say 5 = .ok (.astore_n 3, 1) := by decide +kernel
theorem dX11_say_6 : decode cX11_say 6 = .ok (.iload_n 2, 1) := by decide +kernel
theorem dX11_say_7 : decode cX11_say 7 = .ok (.iconst 1, 1) := by decide +kernel
theorem dX11_say_8 : decode cX11_say 8 = .ok (.if_icmp .lt 9, 3) := by decide +kernel
theorem dX11_say_11 : decode cX11_say 11 = .ok (.iload_n 2, 1) := by decide +kernel
theorem dX11_say_12 : decode cX11_say 12 = .ok (.bipush 60, 2) := by decide +kernel
theorem dX11_say_14 : decode cX11_say 14 = .ok (.if_icmp .le 14, 3) := by decide +kernel
theorem dX11_say_17 : decode cX11_say 17 = .ok (.new 91, 3) := by decide +kernel
theorem dX11_say_20 : decode cX11_say 20 = .ok (.dup, 1) := by decide +kernel
theorem dX11_say_21 : decode cX11_say 21 = .ok (.ldc_w 321, 3) := by decide +kernel
theorem dX11_say_24 : decode cX11_say 24 = .ok (.invokespecial 95, 3) := by decide +kernel
theorem dX11_say_27 : decode cX11_say 27 = .ok (.athrow, 1) := by decide +kernel
theorem dX11_say_28 : decode cX11_say 28 = .ok (.aload_n 3, 1) := by decide +kernel
theorem dX11_say_29 : decode cX11_say 29 = .ok (.invokestatic 262, 3) := by decide +kernel
theorem dX11_say_32 : decode cX11_say 32 = .ok (.istore 4, 2) := by decide +kernel
theorem dX11_say_34 : decode cX11_say 34 = .ok (.iconst 1, 1) := by decide +kernel
theorem dX11_say_35 : decode cX11_say 35 = .ok (.iload 4, 2) := by decide +kernel
theorem dX11_say_37 : decode cX11_say 37 = .ok (.iconst 0, 1) := by decide +kernel
theorem dX11_say_38 : decode cX11_say 38 = .ok (.invokestatic 265, 3) := by decide +kernel
theorem dX11_say_41 : decode cX11_say 41 = .ok (.invokestatic 323, 3) := by decide +kernel
theorem dX11_say_44 : decode cX11_say 44 = .ok (.istore 5, 2) := by decide +kernel
theorem dX11_say_46 : decode cX11_say 46 = .ok (.iload 4, 2) := by decide +kernel
theorem dX11_say_48 : decode cX11_say 48 = .ok (.iconst 1, 1) := by decide +kernel
theorem dX11_say_49 : decode cX11_say 49 = .ok (.invokestatic 265, 3) := by decide +kernel
theorem dX11_say_52 : decode cX11_say 52 = .ok (.istore 6, 2) := by decide +kernel
theorem dX11_say_54 : decode cX11_say 54 = .ok (.aload_n 0, 1) := by decide +kernel
theorem dX11_say_55 : decode cX11_say 55 = .ok (.getfield 76, 3) := by decide +kernel
theorem dX11_say_58 : decode cX11_say 58 = .ok (.invokevirtual 328, 3) := by decide +kernel
theorem dX11_say_61 : decode cX11_say 61 = .ok (.iload 4, 2) := by decide +kernel
theorem dX11_say_63 : decode cX11_say 63 = .ok (.iconst (-1), 1) := by decide +kernel
theorem dX11_say_64 : decode cX11_say 64 = .ok (.if_icmp .eq 27, 3) := by decide +kernel
theorem dX11_say_67 : decode cX11_say 67 = .ok (.iload 5, 2) := by decide +kernel
theorem dX11_say_69 : decode cX11_say 69 = .ok (.iload 6, 2) := by decide +kernel
theorem dX11_say_71 : decode cX11_say 71 = .ok (.iadd, 1) := by decide +kernel
theorem dX11_say_72 : decode cX11_say 72 = .ok (.iload_n 2, 1) := by decide +kernel
theorem dX11_say_73 : decode cX11_say 73 = .ok (.if_icmp .gt 18, 3) := by decide +kernel
theorem dX11_say_76 : decode cX11_say 76 = .ok (.aload_n 0, 1) := by decide +kernel
theorem dX11_say_77 : decode cX11_say 77 = .ok (.getfield 76, 3) := by decide +kernel
theorem dX11_say_80 : decode cX11_say 80 = .ok (.aload_n 3, 1) := by decide +kernel
theorem dX11_say_81 : decode cX11_say 81 = .ok (.iload 5, 2) := by decide +kernel
theorem dX11_say_83 : decode cX11_say 83 = .ok (.iload 6, 2) := by decide +kernel
theorem dX11_say_85 : decode cX11_say 85 = .ok (.invokevirtual 329, 3) := by decide +kernel
theorem dX11_say_88 : decode cX11_say 88 = .ok (.goto 12, 3) := by decide +kernel
theorem dX11_say_91 : decode cX11_say 91 = .ok (.aload_n 0, 1) := by decide +kernel
theorem dX11_say_92 : decode cX11_say 92 = .ok (.getfield 76, 3) := by decide +kernel
theorem dX11_say_95 : decode cX11_say 95 = .ok (.aload_n 3, 1) := by decide +kernel
theorem dX11_say_96 : decode cX11_say 96 = .ok (.iload_n 2, 1) := by decide +kernel
theorem dX11_say_97 : decode cX11_say 97 = .ok (.invokevirtual 333, 3) := by decide +kernel
theorem dX11_say_100 : decode cX11_say 100 = .ok (.aload_n 0, 1) := by decide +kernel
theorem dX11_say_101 : decode cX11_say 101 = .ok (.getfield 76, 3) := by decide +kernel
theorem dX11_say_104 : decode cX11_say 104 = .ok (.getfield 336, 3) := by decide +kernel
theorem dX11_say_107 : decode cX11_say 107 = .ok (.ireturn, 1) := by decide +kernel
theorem dX11_said_0 : decode cX11_said 0 = .ok (.aload_n 0, 1) := by decide +kernel
theorem dX11_said_1 : decode cX11_said 1 = .ok (.getfield 76, 3) := by decide +kernel
theorem dX11_said_4 : decode cX11_said 4 = .ok (.iload_n 1, 1) := by decide +kernel
theorem dX11_said_5 : decode cX11_said 5 = .ok (.invokevirtual 339, 3) := by decide +kernel
theorem dX11_said_8 : decode cX11_said 8 = .ok (.ireturn, 1) := by decide +kernel
theorem dX11_within_0 : decode cX11_within 0 = .ok (.iload_n 0, 1) := by decide +kernel
theorem dX11_within_1 : decode cX11_within 1 = .ok (.iload_n 1, 1) := by decide +kernel
theorem dX11_within_2 : decode cX11_within 2 = .ok (.ineg, 1) := by decide +kernel
theorem dX11_within_3 : decode cX11_within 3 = .ok (.if_icmp .lt 12, 3) := by decide +kernel
theorem dX11_within_6 : decode cX11_within 6 = .ok (.iload_n 0, 1) := by decide +kernel
theorem dX11_within_7 : decode cX11_within 7 = .ok (.iload_n 1, 1) := by decide +kernel
theorem dX11_within_8 : decode cX11_within 8 = .ok (.if_icmp .gt 7, 3) := by decide +kernel
theorem dX11_within_11 : decode cX11_within 11 = .ok (.iconst 1, 1) := by decide +kernel
theorem dX11_within_12 : decode cX11_within 12 = .ok (.goto 4, 3) := by decide +kernel
theorem dX11_within_15 : decode cX11_within 15 = .ok (.iconst 0, 1) := by decide +kernel
theorem dX11_within_16 : decode cX11_within 16 = .ok (.ireturn, 1) := by decide +kernel
theorem dX11_fitsSingle_0 : decode cX11_fitsSingle 0 = .ok (.iload_n 2, 1) := by decide +kernel
theorem dX11_fitsSingle_1 : decode cX11_fitsSingle 1 = .ok (.ifCond .ne 9, 3) := by decide +kernel
theorem dX11_fitsSingle_4 : decode cX11_fitsSingle 4 = .ok (.iload_n 3, 1) := by decide +kernel
theorem dX11_fitsSingle_5 : decode cX11_fitsSingle 5 = .ok (.ifCond .ne 5, 3) := by decide +kernel
theorem dX11_fitsSingle_8 : decode cX11_fitsSingle 8 = .ok (.iconst 0, 1) := by decide +kernel
theorem dX11_fitsSingle_9 : decode cX11_fitsSingle 9 = .ok (.ireturn, 1) := by decide +kernel
theorem dX11_fitsSingle_10 : decode cX11_fitsSingle 10 = .ok (.iload_n 0, 1) := by decide +kernel
theorem dX11_fitsSingle_11 : decode cX11_fitsSingle 11 = .ok (.sipush 999, 3) := by decide +kernel
theorem dX11_fitsSingle_14 : decode cX11_fitsSingle 14 = .ok (.invokestatic 137, 3) := by decide +kernel
theorem dX11_fitsSingle_17 : decode cX11_fitsSingle 17 = .ok (.ifCond .eq 37, 3) := by decide +kernel
theorem dX11_fitsSingle_20 : decode cX11_fitsSingle 20 = .ok (.iload_n 1, 1) := by decide +kernel
theorem dX11_fitsSingle_21 : decode cX11_fitsSingle 21 = .ok (.sipush 999, 3) := by decide +kernel
theorem dX11_fitsSingle_24 : decode cX11_fitsSingle 24 = .ok (.invokestatic 137, 3) := by decide +kernel
theorem dX11_fitsSingle_27 : decode cX11_fitsSingle 27 = .ok (.ifCond .eq 27, 3) := by decide +kernel
theorem dX11_fitsSingle_30 : decode cX11_fitsSingle 30 = .ok (.iload_n 2, 1) := by decide +kernel
theorem dX11_fitsSingle_31 : decode cX11_fitsSingle 31 = .ok (.sipush 999, 3) := by decide +kernel
theorem dX11_fitsSingle_34 : decode cX11_fitsSingle 34 = .ok (.invokestatic 137, 3) := by decide +kernel
theorem dX11_fitsSingle_37 : decode cX11_fitsSingle 37 = .ok (.ifCond .eq 17, 3) := by decide +kernel
theorem dX11_fitsSingle_40 : decode cX11_fitsSingle 40 = .ok (.iload_n 3, 1) := by decide +kernel
theorem dX11_fitsSingle_41 : decode cX11_fitsSingle 41 = .ok (.sipush 999, 3) := by decide +kernel
theorem dX11_fitsSingle_44 : decode cX11_fitsSingle 44 = .ok (.invokestatic 137, 3) := by decide +kernel
theorem dX11_fitsSingle_47 : decode cX11_fitsSingle 47 = .ok (.ifCond .eq 7, 3) := by decide +kernel
theorem dX11_fitsSingle_50 : decode cX11_fitsSingle 50 = .ok (.iconst 1, 1) := by decide +kernel
theorem dX11_fitsSingle_51 : decode cX11_fitsSingle 51 = .ok (.goto 4, 3) := by decide +kernel
theorem dX11_fitsSingle_54 : decode cX11_fitsSingle 54 = .ok (.iconst 0, 1) := by decide +kernel
theorem dX11_fitsSingle_55 : decode cX11_fitsSingle 55 = .ok (.ireturn, 1) := by decide +kernel
theorem dX11_grown_0 : decode cX11_grown 0 = .ok (.lload_n 2, 1) := by decide +kernel
theorem dX11_grown_1 : decode cX11_grown 1 = .ok (.lconst 0, 1) := by decide +kernel
theorem dX11_grown_2 : decode cX11_grown 2 = .ok (.lcmp, 1) := by decide +kernel
theorem dX11_grown_3 : decode cX11_grown 3 = .ok (.ifCond .eq 40, 3) := by decide +kernel
theorem dX11_grown_6 : decode cX11_grown 6 = .ok (.ldc2_w 342, 3) := by decide +kernel
theorem dX11_grown_9 : decode cX11_grown 9 = .ok (.lload_n 2, 1) := by decide +kernel
theorem dX11_grown_10 : decode cX11_grown 10 = .ok (.lconst 0, 1) := by decide +kernel
theorem dX11_grown_11 : decode cX11_grown 11 = .ok (.lcmp, 1) := by decide +kernel
theorem dX11_grown_12 : decode cX11_grown 12 = .ok (.ifCond .ge 8, 3) := by decide +kernel
theorem dX11_grown_15 : decode cX11_grown 15 = .ok (.lload_n 2, 1) := by decide +kernel
theorem dX11_grown_16 : decode cX11_grown 16 = .ok (.lneg, 1) := by decide +kernel
theorem dX11_grown_17 : decode cX11_grown 17 = .ok (.goto 4, 3) := by decide +kernel
theorem dX11_grown_20 : decode cX11_grown 20 = .ok (.lload_n 2, 1) := by decide +kernel
theorem dX11_grown_21 : decode cX11_grown 21 = .ok (.ldiv, 1) := by decide +kernel
theorem dX11_grown_22 : decode cX11_grown 22 = .ok (.lstore 6, 2) := by decide +kernel
theorem dX11_grown_24 : decode cX11_grown 24 = .ok (.lload_n 0, 1) := by decide +kernel
theorem dX11_grown_25 : decode cX11_grown 25 = .ok (.lload 6, 2) := by decide +kernel
theorem dX11_grown_27 : decode cX11_grown 27 = .ok (.lcmp, 1) := by decide +kernel
theorem dX11_grown_28 : decode cX11_grown 28 = .ok (.ifCond .gt 11, 3) := by decide +kernel
theorem dX11_grown_31 : decode cX11_grown 31 = .ok (.lload_n 0, 1) := by decide +kernel
theorem dX11_grown_32 : decode cX11_grown 32 = .ok (.lload 6, 2) := by decide +kernel
theorem dX11_grown_34 : decode cX11_grown 34 = .ok (.lneg, 1) := by decide +kernel
theorem dX11_grown_35 : decode cX11_grown 35 = .ok (.lcmp, 1) := by decide +kernel
theorem dX11_grown_36 : decode cX11_grown 36 = .ok (.ifCond .ge 7, 3) := by decide +kernel
theorem dX11_grown_39 : decode cX11_grown 39 = .ok (.ldc2_w 247, 3) := by decide +kernel
theorem dX11_grown_42 : decode cX11_grown 42 = .ok (.lreturn, 1) := by decide +kernel
theorem dX11_grown_43 : decode cX11_grown 43 = .ok (.lload_n 0, 1) := by decide +kernel
theorem dX11_grown_44 : decode cX11_grown 44 = .ok (.lload_n 2, 1) := by decide +kernel
theorem dX11_grown_45 : decode cX11_grown 45 = .ok (.lmul, 1) := by decide +kernel
theorem dX11_grown_46 : decode cX11_grown 46 = .ok (.lload 4, 2) := by decide +kernel
theorem dX11_grown_48 : decode cX11_grown 48 = .ok (.ladd, 1) := by decide +kernel
theorem dX11_grown_49 : decode cX11_grown 49 = .ok (.lstore 6, 2) := by decide +kernel
theorem dX11_grown_51 : decode cX11_grown 51 = .ok (.lload 6, 2) := by decide +kernel
theorem dX11_grown_53 : decode cX11_grown 53 = .ok (.ldc2_w 344, 3) := by decide +kernel
theorem dX11_grown_56 : decode cX11_grown 56 = .ok (.lcmp, 1) := by decide +kernel
theorem dX11_grown_57 : decode cX11_grown 57 = .ok (.ifCond .gt 12, 3) := by decide +kernel
theorem dX11_grown_60 : decode cX11_grown 60 = .ok (.lload 6, 2) := by decide +kernel
theorem dX11_grown_62 : decode cX11_grown 62 = .ok (.ldc2_w 346, 3) := by decide +kernel
theorem dX11_grown_65 : decode cX11_grown 65 = .ok (.lcmp, 1) := by decide +kernel
theorem dX11_grown_66 : decode cX11_grown 66 = .ok (.ifCond .ge 9, 3) := by decide +kernel
theorem dX11_grown_69 : decode cX11_grown 69 = .ok (.ldc2_w 247, 3) := by decide +kernel
theorem dX11_grown_72 : decode cX11_grown 72 = .ok (.goto 5, 3) := by decide +kernel
theorem dX11_grown_75 : decode cX11_grown 75 = .ok (.lload 6, 2) := by decide +kernel
theorem dX11_grown_77 : decode cX11_grown 77 = .ok (.lreturn, 1) := by decide +kernel
theorem dX11_wholeRoot_0 : decode cX11_wholeRoot 0 = .ok (.lconst 0, 1) := by decide +kernel
theorem dX11_wholeRoot_1 : decode cX11_wholeRoot 1 = .ok (.lstore_n 2, 1) := by decide +kernel
theorem dX11_wholeRoot_2 : decode cX11_wholeRoot 2 = .ok (.ldc2_w 348, 3) := by decide +kernel
theorem dX11_wholeRoot_5 : decode cX11_wholeRoot 5 = .ok (.lstore 4, 2) := by decide +kernel
theorem dX11_wholeRoot_7 : decode cX11_wholeRoot 7 = .ok (.lload 4, 2) := by decide +kernel
theorem dX11_wholeRoot_9 : decode cX11_wholeRoot 9 = .ok (.lconst 0, 1) := by decide +kernel
theorem dX11_wholeRoot_10 : decode cX11_wholeRoot 10 = .ok (.lcmp, 1) := by decide +kernel
theorem dX11_wholeRoot_11 : decode cX11_wholeRoot 11 = .ok (.ifCond .le 31, 3) := by decide +kernel
theorem dX11_wholeRoot_14 : decode cX11_wholeRoot 14 = .ok (.lload_n 2, 1) := by decide +kernel
theorem dX11_wholeRoot_15 : decode cX11_wholeRoot 15 = .ok (.lload 4, 2) := by decide +kernel
theorem dX11_wholeRoot_17 : decode cX11_wholeRoot 17 = .ok (.ladd, 1) := by decide +kernel
theorem dX11_wholeRoot_18 : decode cX11_wholeRoot 18 = .ok (.lload_n 2, 1) := by decide +kernel
theorem dX11_wholeRoot_19 : decode cX11_wholeRoot 19 = .ok (.lload 4, 2) := by decide +kernel
theorem dX11_wholeRoot_21 : decode cX11_wholeRoot 21 = .ok (.ladd, 1) := by decide +kernel
theorem dX11_wholeRoot_22 : decode cX11_wholeRoot 22 = .ok (.lmul, 1) := by decide +kernel
theorem dX11_wholeRoot_23 : decode cX11_wholeRoot 23 = .ok (.lload_n 0, 1) := by decide +kernel
theorem dX11_wholeRoot_24 : decode cX11_wholeRoot 24 = .ok (.lcmp, 1) := by decide +kernel
theorem dX11_wholeRoot_25 : decode cX11_wholeRoot 25 = .ok (.ifCond .gt 8, 3) := by decide +kernel
theorem dX11_wholeRoot_28 : decode cX11_wholeRoot 28 = .ok (.lload_n 2, 1) := by decide +kernel
theorem dX11_wholeRoot_29 : decode cX11_wholeRoot 29 = .ok (.lload 4, 2) := by decide +kernel
theorem dX11_wholeRoot_31 : decode cX11_wholeRoot 31 = .ok (.ladd, 1) := by decide +kernel
theorem dX11_wholeRoot_32 : decode cX11_wholeRoot 32 = .ok (.lstore_n 2, 1) := by decide +kernel
theorem dX11_wholeRoot_33 : decode cX11_wholeRoot 33 = .ok (.lload 4, 2) := by decide +kernel
theorem dX11_wholeRoot_35 : decode cX11_wholeRoot 35 = .ok (.iconst 1, 1) := by decide +kernel
theorem dX11_wholeRoot_36 : decode cX11_wholeRoot 36 = .ok (.lshr, 1) := by decide +kernel
theorem dX11_wholeRoot_37 : decode cX11_wholeRoot 37 = .ok (.lstore 4, 2) := by decide +kernel
theorem dX11_wholeRoot_39 : decode cX11_wholeRoot 39 = .ok (.goto (-32), 3) := by decide +kernel
theorem dX11_wholeRoot_42 : decode cX11_wholeRoot 42 = .ok (.lload_n 2, 1) := by decide +kernel
theorem dX11_wholeRoot_43 : decode cX11_wholeRoot 43 = .ok (.lreturn, 1) := by decide +kernel
theorem dX11_isSquare_0 : decode cX11_isSquare 0 = .ok (.lload_n 0, 1) := by decide +kernel
theorem dX11_isSquare_1 : decode cX11_isSquare 1 = .ok (.invokestatic 350, 3) := by decide +kernel
theorem dX11_isSquare_4 : decode cX11_isSquare 4 = .ok (.lstore_n 2, 1) := by decide +kernel
theorem dX11_isSquare_5 : decode cX11_isSquare 5 = .ok (.lload_n 2, 1) := by decide +kernel
theorem dX11_isSquare_6 : decode cX11_isSquare 6 = .ok (.lload_n 2, 1) := by decide +kernel
theorem dX11_isSquare_7 : decode cX11_isSquare 7 = .ok (.lmul, 1) := by decide +kernel
theorem dX11_isSquare_8 : decode cX11_isSquare 8 = .ok (.lload_n 0, 1) := by decide +kernel
theorem dX11_isSquare_9 : decode cX11_isSquare 9 = .ok (.lcmp, 1) := by decide +kernel
theorem dX11_isSquare_10 : decode cX11_isSquare 10 = .ok (.ifCond .ne 7, 3) := by decide +kernel
theorem dX11_isSquare_13 : decode cX11_isSquare 13 = .ok (.iconst 1, 1) := by decide +kernel
theorem dX11_isSquare_14 : decode cX11_isSquare 14 = .ok (.goto 4, 3) := by decide +kernel
theorem dX11_isSquare_17 : decode cX11_isSquare 17 = .ok (.iconst 0, 1) := by decide +kernel
theorem dX11_isSquare_18 : decode cX11_isSquare 18 = .ok (.ireturn, 1) := by decide +kernel
theorem dX11_find_0 : decode cX11_find 0 = .ok (.iload_n 1, 1) := by decide +kernel
theorem dX11_find_1 : decode cX11_find 1 = .ok (.ifCond .lt 21, 3) := by decide +kernel
theorem dX11_find_4 : decode cX11_find 4 = .ok (.iload_n 1, 1) := by decide +kernel
theorem dX11_find_5 : decode cX11_find 5 = .ok (.aload_n 0, 1) := by decide +kernel
theorem dX11_find_6 : decode cX11_find 6 = .ok (.getfield 11, 3) := by decide +kernel
theorem dX11_find_9 : decode cX11_find 9 = .ok (.arraylength, 1) := by decide +kernel
theorem dX11_find_10 : decode cX11_find 10 = .ok (.if_icmp .ge 12, 3) := by decide +kernel
theorem dX11_find_13 : decode cX11_find 13 = .ok (.aload_n 0, 1) := by decide +kernel
theorem dX11_find_14 : decode cX11_find 14 = .ok (.getfield 11, 3) := by decide +kernel
theorem dX11_find_17 : decode cX11_find 17 = .ok (.iload_n 1, 1) := by decide +kernel
theorem dX11_find_18 : decode cX11_find 18 = .ok (.aaload, 1) := by decide +kernel
theorem dX11_find_19 : decode cX11_find 19 = .ok (.goto 4, 3) := by decide +kernel
theorem dX11_find_22 : decode cX11_find 22 = .ok (.aconst_null, 1) := by decide +kernel
theorem dX11_find_23 : decode cX11_find 23 = .ok (.areturn, 1) := by decide +kernel
theorem dX11_settled_0 : decode cX11_settled 0 = .ok (.aload_n 0, 1) := by decide +kernel
theorem dX11_settled_1 : decode cX11_settled 1 = .ok (.iload_n 1, 1) := by decide +kernel
theorem dX11_settled_2 : decode cX11_settled 2 = .ok (.invokevirtual 87, 3) := by decide +kernel
theorem dX11_settled_5 : decode cX11_settled 5 = .ok (.astore_n 2, 1) := by decide +kernel
theorem dX11_settled_6 : decode cX11_settled 6 = .ok (.aload_n 2, 1) := by decide +kernel
theorem dX11_settled_7 : decode cX11_settled 7 = .ok (.ifnonnull 14, 3) := by decide +kernel
theorem dX11_settled_10 : decode cX11_settled 10 = .ok (.new 163, 3) := by decide +kernel
theorem dX11_settled_13 : decode cX11_settled 13 = .ok (.dup, 1) := by decide +kernel
theorem dX11_settled_14 : decode cX11_settled 14 = .ok (.ldc_w 354, 3) := by decide +kernel
theorem dX11_settled_17 : decode cX11_settled 17 = .ok (.invokespecial 167, 3) := by decide +kernel
theorem dX11_settled_20 : decode cX11_settled 20 = .ok (.athrow, 1) := by decide +kernel
theorem dX11_settled_21 : decode cX11_settled 21 = .ok (.iconst 0, 1) := by decide +kernel
theorem dX11_settled_22 : decode cX11_settled 22 = .ok (.istore_n 3, 1) := by decide +kernel
theorem dX11_settled_23 : decode cX11_settled 23 = .ok (.iload_n 3, 1) := by decide +kernel
theorem dX11_settled_24 : decode cX11_settled 24 = .ok (.iload_n 1, 1) := by decide +kernel
theorem dX11_settled_25 : decode cX11_settled 25 = .ok (.if_icmp .gt 51, 3) := by decide +kernel
theorem dX11_settled_28 : decode cX11_settled 28 = .ok (.iload_n 3, 1) := by decide +kernel
theorem dX11_settled_29 : decode cX11_settled 29 = .ok (.aload_n 0, 1) := by decide +kernel
theorem dX11_settled_30 : decode cX11_settled 30 = .ok (.getfield 11, 3) := by decide +kernel
theorem dX11_settled_33 : decode cX11_settled 33 = .ok (.arraylength, 1) := by decide +kernel
theorem dX11_settled_34 : decode cX11_settled 34 = .ok (.if_icmp .ge 42, 3) := by decide +kernel
theorem dX11_settled_37 : decode cX11_settled 37 = .ok (.aload_n 0, 1) := by decide +kernel
theorem dX11_settled_38 : decode cX11_settled 38 = .ok (.getfield 11, 3) := by decide +kernel
theorem dX11_settled_41 : decode cX11_settled 41 = .ok (.iload_n 3, 1) := by decide +kernel
theorem dX11_settled_42 : decode cX11_settled 42 = .ok (.aaload, 1) := by decide +kernel
theorem dX11_settled_43 : decode cX11_settled 43 = .ok (.astore 4, 2) := by decide +kernel
theorem dX11_settled_45 : decode cX11_settled 45 = .ok (.aload 4, 2) := by decide +kernel
theorem dX11_settled_47 : decode cX11_settled 47 = .ok (.ifnull 23, 3) := by decide +kernel
theorem dX11_settled_50 : decode cX11_settled 50 = .ok (.aload 4, 2) := by decide +kernel
theorem dX11_settled_52 : decode cX11_settled 52 = .ok (.getfield 356, 3) := by decide +kernel
theorem dX11_settled_55 : decode cX11_settled 55 = .ok (.ifCond .eq 15, 3) := by decide +kernel
theorem dX11_settled_58 : decode cX11_settled 58 = .ok (.aload_n 0, 1) := by decide +kernel
theorem dX11_settled_59 : decode cX11_settled 59 = .ok (.aload 4, 2) := by decide +kernel
theorem dX11_settled_61 : decode cX11_settled 61 = .ok (.invokevirtual 359, 3) := by decide +kernel
theorem dX11_settled_64 : decode cX11_settled 64 = .ok (.aload 4, 2) := by decide +kernel
theorem dX11_settled_66 : decode cX11_settled 66 = .ok (.iconst 0, 1) := by decide +kernel
theorem dX11_settled_67 : decode cX11_settled 67 = .ok (.putfield 356, 3) := by decide +kernel
theorem dX11_settled_70 : decode cX11_settled 70 = .ok (.iinc 3 1, 3) := by decide +kernel
theorem dX11_settled_73 : decode cX11_settled 73 = .ok (.goto (-50), 3) := by decide +kernel
theorem dX11_settled_76 : decode cX11_settled 76 = .ok (.aload_n 2, 1) := by decide +kernel
theorem dX11_settled_77 : decode cX11_settled 77 = .ok (.areturn, 1) := by decide +kernel
theorem dX11_requireTerm_0 : decode cX11_requireTerm 0 = .ok (.aload_n 0, 1) := by decide +kernel
theorem dX11_requireTerm_1 : decode cX11_requireTerm 1 = .ok (.iload_n 1, 1) := by decide +kernel
theorem dX11_requireTerm_2 : decode cX11_requireTerm 2 = .ok (.invokevirtual 257, 3) := by decide +kernel
theorem dX11_requireTerm_5 : decode cX11_requireTerm 5 = .ok (.ifCond .ne 14, 3) := by decide +kernel
theorem dX11_requireTerm_8 : decode cX11_requireTerm 8 = .ok (.new 163, 3) := by decide +kernel
theorem dX11_requireTerm_11 : decode cX11_requireTerm 11 = .ok (.dup, 1) := by decide +kernel
theorem dX11_requireTerm_12 : decode cX11_requireTerm 12 = .ok (.ldc_w 362, 3) := by decide +kernel
theorem dX11_requireTerm_15 : decode cX11_requireTerm 15 = .ok (.invokespecial 167, 3) := by decide +kernel
theorem dX11_requireTerm_18 : decode cX11_requireTerm 18 = .ok (.athrow, 1) := by decide +kernel
theorem dX11_requireTerm_19 : decode cX11_requireTerm 19 = .ok (.return_, 1) := by decide +kernel
theorem dX11_reckon_0 : decode cX11_reckon 0 = .ok (.aload_n 1, 1) := by decide +kernel
theorem dX11_reckon_1 : decode cX11_reckon 1 = .ok (.getfield 168, 3) := by decide +kernel
theorem dX11_reckon_4 : decode cX11_reckon 4 = .ok (.astore_n 2, 1) := by decide +kernel
theorem dX11_reckon_5 : decode cX11_reckon 5 = .ok (.aload_n 1, 1) := by decide +kernel
theorem dX11_reckon_6 : decode cX11_reckon 6 = .ok (.invokevirtual 364, 3) := by decide +kernel
theorem dX11_reckon_9 : decode cX11_reckon 9 = .ok (.aload_n 2, 1) := by decide +kernel
theorem dX11_reckon_10 : decode cX11_reckon 10 = .ok (.getfield 172, 3) := by decide +kernel
theorem dX11_reckon_13 : decode cX11_reckon 13 = .ok (.tableswitch 108 0 3 #[31, 48, 56, 64], 31) := by decide +kernel
theorem dX11_reckon_44 : decode cX11_reckon 44 = .ok (.aload_n 1, 1) := by decide +kernel
theorem dX11_reckon_45 : decode cX11_reckon 45 = .ok (.aload_n 2, 1) := by decide +kernel
theorem dX11_reckon_46 : decode cX11_reckon 46 = .ok (.getfield 298, 3) := by decide +kernel
theorem dX11_reckon_49 : decode cX11_reckon 49 = .ok (.i2l, 1) := by decide +kernel
theorem dX11_reckon_50 : decode cX11_reckon 50 = .ok (.aload_n 2, 1) := by decide +kernel
theorem dX11_reckon_51 : decode cX11_reckon 51 = .ok (.getfield 287, 3) := by decide +kernel
theorem dX11_reckon_54 : decode cX11_reckon 54 = .ok (.i2l, 1) := by decide +kernel
theorem dX11_reckon_55 : decode cX11_reckon 55 = .ok (.invokevirtual 367, 3) := by decide +kernel
theorem dX11_reckon_58 : decode cX11_reckon 58 = .ok (.goto 100, 3) := by decide +kernel
theorem dX11_reckon_61 : decode cX11_reckon 61 = .ok (.aload_n 0, 1) := by decide +kernel
theorem dX11_reckon_62 : decode cX11_reckon 62 = .ok (.aload_n 1, 1) := by decide +kernel
theorem dX11_reckon_63 : decode cX11_reckon 63 = .ok (.invokevirtual 371, 3) := by decide +kernel
theorem dX11_reckon_66 : decode cX11_reckon 66 = .ok (.goto 92, 3) := by decide +kernel
theorem dX11_reckon_69 : decode cX11_reckon 69 = .ok (.aload_n 1, 1) := by decide +kernel
theorem dX11_reckon_70 : decode cX11_reckon 70 = .ok (.aload_n 2, 1) := by decide +kernel
theorem dX11_reckon_71 : decode cX11_reckon 71 = .ok (.invokevirtual 374, 3) := by decide +kernel
theorem dX11_reckon_74 : decode cX11_reckon 74 = .ok (.goto 84, 3) := by decide +kernel
theorem dX11_reckon_77 : decode cX11_reckon 77 = .ok (.aload_n 0, 1) := by decide +kernel
theorem dX11_reckon_78 : decode cX11_reckon 78 = .ok (.getfield 32, 3) := by decide +kernel
theorem dX11_reckon_81 : decode cX11_reckon 81 = .ok (.aload_n 0, 1) := by decide +kernel
theorem dX11_reckon_82 : decode cX11_reckon 82 = .ok (.aload_n 2, 1) := by decide +kernel
theorem dX11_reckon_83 : decode cX11_reckon 83 = .ok (.getfield 377, 3) := by decide +kernel
theorem dX11_reckon_86 : decode cX11_reckon 86 = .ok (.invokevirtual 87, 3) := by decide +kernel
theorem dX11_reckon_89 : decode cX11_reckon 89 = .ok (.aload_n 2, 1) := by decide +kernel
theorem dX11_reckon_90 : decode cX11_reckon 90 = .ok (.getfield 298, 3) := by decide +kernel
theorem dX11_reckon_93 : decode cX11_reckon 93 = .ok (.aload_n 2, 1) := by decide +kernel
theorem dX11_reckon_94 : decode cX11_reckon 94 = .ok (.getfield 287, 3) := by decide +kernel
theorem dX11_reckon_97 : decode cX11_reckon 97 = .ok (.aload_n 2, 1) := by decide +kernel
theorem dX11_reckon_98 : decode cX11_reckon 98 = .ok (.getfield 301, 3) := by decide +kernel
theorem dX11_reckon_101 : decode cX11_reckon 101 = .ok (.aload_n 2, 1) := by decide +kernel
theorem dX11_reckon_102 : decode cX11_reckon 102 = .ok (.getfield 380, 3) := by decide +kernel
theorem dX11_reckon_105 : decode cX11_reckon 105 = .ok (.invokevirtual 276, 3) := by decide +kernel
theorem dX11_reckon_108 : decode cX11_reckon 108 = .ok (.aload_n 0, 1) := by decide +kernel
theorem dX11_reckon_109 : decode cX11_reckon 109 = .ok (.getfield 32, 3) := by decide +kernel
theorem dX11_reckon_112 : decode cX11_reckon 112 = .ok (.aload_n 1, 1) := by decide +kernel
theorem dX11_reckon_113 : decode cX11_reckon 113 = .ok (.bipush 60, 2) := by decide +kernel
theorem dX11_reckon_115 : decode cX11_reckon 115 = .ok (.invokevirtual 383, 3) := by decide +kernel
theorem dX11_reckon_118 : decode cX11_reckon 118 = .ok (.goto 40, 3) := by decide +kernel
theorem dX11_reckon_121 : decode cX11_reckon 121 = .ok (.aload_n 0, 1) := by decide +kernel
theorem dX11_reckon_122 : decode cX11_reckon 122 = .ok (.getfield 32, 3) := by decide +kernel
theorem dX11_reckon_125 : decode cX11_reckon 125 = .ok (.aload_n 2, 1) := by decide +kernel
theorem dX11_reckon_126 : decode cX11_reckon 126 = .ok (.getfield 298, 3) := by decide +kernel
theorem dX11_reckon_129 : decode cX11_reckon 129 = .ok (.aload_n 0, 1) := by decide +kernel
theorem dX11_reckon_130 : decode cX11_reckon 130 = .ok (.aload_n 2, 1) := by decide +kernel
theorem dX11_reckon_131 : decode cX11_reckon 131 = .ok (.getfield 377, 3) := by decide +kernel
theorem dX11_reckon_134 : decode cX11_reckon 134 = .ok (.invokevirtual 87, 3) := by decide +kernel
theorem dX11_reckon_137 : decode cX11_reckon 137 = .ok (.aload_n 0, 1) := by decide +kernel
theorem dX11_reckon_138 : decode cX11_reckon 138 = .ok (.aload_n 2, 1) := by decide +kernel
theorem dX11_reckon_139 : decode cX11_reckon 139 = .ok (.getfield 386, 3) := by decide +kernel
theorem dX11_reckon_142 : decode cX11_reckon 142 = .ok (.invokevirtual 87, 3) := by decide +kernel
theorem dX11_reckon_145 : decode cX11_reckon 145 = .ok (.invokevirtual 389, 3) := by decide +kernel
theorem dX11_reckon_148 : decode cX11_reckon 148 = .ok (.aload_n 0, 1) := by decide +kernel
theorem dX11_reckon_149 : decode cX11_reckon 149 = .ok (.getfield 32, 3) := by decide +kernel
theorem dX11_reckon_152 : decode cX11_reckon 152 = .ok (.aload_n 1, 1) := by decide +kernel
theorem dX11_reckon_153 : decode cX11_reckon 153 = .ok (.bipush 60, 2) := by decide +kernel
theorem dX11_reckon_155 : decode cX11_reckon 155 = .ok (.invokevirtual 383, 3) := by decide +kernel
theorem dX11_reckon_158 : decode cX11_reckon 158 = .ok (.return_, 1) := by decide +kernel
theorem dX11_reckonRoot_0 : decode cX11_reckonRoot 0 = .ok (.aload_n 1, 1) := by decide +kernel
theorem dX11_reckonRoot_1 : decode cX11_reckonRoot 1 = .ok (.getfield 168, 3) := by decide +kernel
theorem dX11_reckonRoot_4 : decode cX11_reckonRoot 4 = .ok (.astore_n 2, 1) := by decide +kernel
theorem dX11_reckonRoot_5 : decode cX11_reckonRoot 5 = .ok (.aload_n 2, 1) := by decide +kernel
theorem dX11_reckonRoot_6 : decode cX11_reckonRoot 6 = .ok (.getfield 287, 3) := by decide +kernel
theorem dX11_reckonRoot_9 : decode cX11_reckonRoot 9 = .ok (.i2l, 1) := by decide +kernel
theorem dX11_reckonRoot_10 : decode cX11_reckonRoot 10 = .ok (.invokestatic 290, 3) := by decide +kernel
theorem dX11_reckonRoot_13 : decode cX11_reckonRoot 13 = .ok (.ifCond .eq 57, 3) := by decide +kernel
theorem dX11_reckonRoot_16 : decode cX11_reckonRoot 16 = .ok (.aload_n 2, 1) := by decide +kernel
theorem dX11_reckonRoot_17 : decode cX11_reckonRoot 17 = .ok (.getfield 298, 3) := by decide +kernel
theorem dX11_reckonRoot_20 : decode cX11_reckonRoot 20 = .ok (.i2l, 1) := by decide +kernel
theorem dX11_reckonRoot_21 : decode cX11_reckonRoot 21 = .ok (.aload_n 2, 1) := by decide +kernel
theorem dX11_reckonRoot_22 : decode cX11_reckonRoot 22 = .ok (.getfield 287, 3) := by decide +kernel
theorem dX11_reckonRoot_25 : decode cX11_reckonRoot 25 = .ok (.i2l, 1) := by decide +kernel
theorem dX11_reckonRoot_26 : decode cX11_reckonRoot 26 = .ok (.invokestatic 350, 3) := by decide +kernel
theorem dX11_reckonRoot_29 : decode cX11_reckonRoot 29 = .ok (.ladd, 1) := by decide +kernel
theorem dX11_reckonRoot_30 : decode cX11_reckonRoot 30 = .ok (.lstore_n 3, 1) := by decide +kernel
theorem dX11_reckonRoot_31 : decode cX11_reckonRoot 31 = .ok (.aload_n 1, 1) := by decide +kernel
theorem dX11_reckonRoot_32 : decode cX11_reckonRoot 32 = .ok (.aload_n 2, 1) := by decide +kernel
theorem dX11_reckonRoot_33 : decode cX11_reckonRoot 33 = .ok (.getfield 301, 3) := by decide +kernel
theorem dX11_reckonRoot_36 : decode cX11_reckonRoot 36 = .ok (.ifCond .ge 8, 3) := by decide +kernel
theorem dX11_reckonRoot_39 : decode cX11_reckonRoot 39 = .ok (.lload_n 3, 1) := by decide +kernel
theorem dX11_reckonRoot_40 : decode cX11_reckonRoot 40 = .ok (.lneg, 1) := by decide +kernel
theorem dX11_reckonRoot_41 : decode cX11_reckonRoot 41 = .ok (.goto 4, 3) := by decide +kernel
theorem dX11_reckonRoot_44 : decode cX11_reckonRoot 44 = .ok (.lload_n 3, 1) := by decide +kernel
theorem dX11_reckonRoot_45 : decode cX11_reckonRoot 45 = .ok (.aload_n 2, 1) := by decide +kernel
theorem dX11_reckonRoot_46 : decode cX11_reckonRoot 46 = .ok (.getfield 301, 3) := by decide +kernel
theorem dX11_reckonRoot_49 : decode cX11_reckonRoot 49 = .ok (.ifCond .ge 12, 3) := by decide +kernel
theorem dX11_reckonRoot_52 : decode cX11_reckonRoot 52 = .ok (.aload_n 2, 1) := by decide +kernel
theorem dX11_reckonRoot_53 : decode cX11_reckonRoot 53 = .ok (.getfield 301, 3) := by decide +kernel
theorem dX11_reckonRoot_56 : decode cX11_reckonRoot 56 = .ok (.ineg, 1) := by decide +kernel
theorem dX11_reckonRoot_57 : decode cX11_reckonRoot 57 = .ok (.i2l, 1) := by decide +kernel
theorem dX11_reckonRoot_58 : decode cX11_reckonRoot 58 = .ok (.goto 8, 3) := by decide +kernel
theorem dX11_reckonRoot_61 : decode cX11_reckonRoot 61 = .ok (.aload_n 2, 1) := by decide +kernel
theorem dX11_reckonRoot_62 : decode cX11_reckonRoot 62 = .ok (.getfield 301, 3) := by decide +kernel
theorem dX11_reckonRoot_65 : decode cX11_reckonRoot 65 = .ok (.i2l, 1) := by decide +kernel
theorem dX11_reckonRoot_66 : decode cX11_reckonRoot 66 = .ok (.invokevirtual 367, 3) := by decide +kernel
theorem dX11_reckonRoot_69 : decode cX11_reckonRoot 69 = .ok (.return_, 1) := by decide +kernel
theorem dX11_reckonRoot_70 : decode cX11_reckonRoot 70 = .ok (.aload_n 0, 1) := by decide +kernel
theorem dX11_reckonRoot_71 : decode cX11_reckonRoot 71 = .ok (.getfield 39, 3) := by decide +kernel
theorem dX11_reckonRoot_74 : decode cX11_reckonRoot 74 = .ok (.aload_n 2, 1) := by decide +kernel
theorem dX11_reckonRoot_75 : decode cX11_reckonRoot 75 = .ok (.getfield 298, 3) := by decide +kernel
theorem dX11_reckonRoot_78 : decode cX11_reckonRoot 78 = .ok (.i2l, 1) := by decide +kernel
theorem dX11_reckonRoot_79 : decode cX11_reckonRoot 79 = .ok (.aload_n 2, 1) := by decide +kernel
theorem dX11_reckonRoot_80 : decode cX11_reckonRoot 80 = .ok (.getfield 287, 3) := by decide +kernel
theorem dX11_reckonRoot_83 : decode cX11_reckonRoot 83 = .ok (.i2l, 1) := by decide +kernel
theorem dX11_reckonRoot_84 : decode cX11_reckonRoot 84 = .ok (.aload_n 2, 1) := by decide +kernel
theorem dX11_reckonRoot_85 : decode cX11_reckonRoot 85 = .ok (.getfield 301, 3) := by decide +kernel
theorem dX11_reckonRoot_88 : decode cX11_reckonRoot 88 = .ok (.i2l, 1) := by decide +kernel
theorem dX11_reckonRoot_89 : decode cX11_reckonRoot 89 = .ok (.invokevirtual 304, 3) := by decide +kernel
theorem dX11_reckonRoot_92 : decode cX11_reckonRoot 92 = .ok (.iconst 0, 1) := by decide +kernel
theorem dX11_reckonRoot_93 : decode cX11_reckonRoot 93 = .ok (.istore_n 3, 1) := by decide +kernel
theorem dX11_reckonRoot_94 : decode cX11_reckonRoot 94 = .ok (.iload_n 3, 1) := by decide +kernel
theorem dX11_reckonRoot_95 : decode cX11_reckonRoot 95 = .ok (.bipush 60, 2) := by decide +kernel
theorem dX11_reckonRoot_97 : decode cX11_reckonRoot 97 = .ok (.if_icmp .ge 36, 3) := by decide +kernel
theorem dX11_reckonRoot_100 : decode cX11_reckonRoot 100 = .ok (.aload_n 0, 1) := by decide +kernel
theorem dX11_reckonRoot_101 : decode cX11_reckonRoot 101 = .ok (.getfield 39, 3) := by decide +kernel
theorem dX11_reckonRoot_104 : decode cX11_reckonRoot 104 = .ok (.invokevirtual 307, 3) := by decide +kernel
theorem dX11_reckonRoot_107 : decode cX11_reckonRoot 107 = .ok (.lstore 4, 2) := by decide +kernel
theorem dX11_reckonRoot_109 : decode cX11_reckonRoot 109 = .ok (.aload_n 1, 1) := by decide +kernel
theorem dX11_reckonRoot_110 : decode cX11_reckonRoot 110 = .ok (.lload 4, 2) := by decide +kernel
theorem dX11_reckonRoot_112 : decode cX11_reckonRoot 112 = .ok (.l2i, 1) := by decide +kernel
theorem dX11_reckonRoot_113 : decode cX11_reckonRoot 113 = .ok (.iconst 0, 1) := by decide +kernel
theorem dX11_reckonRoot_114 : decode cX11_reckonRoot 114 = .ok (.iconst 0, 1) := by decide +kernel
theorem dX11_reckonRoot_115 : decode cX11_reckonRoot 115 = .ok (.invokevirtual 393, 3) := by decide +kernel
theorem dX11_reckonRoot_118 : decode cX11_reckonRoot 118 = .ok (.aload_n 0, 1) := by decide +kernel
theorem dX11_reckonRoot_119 : decode cX11_reckonRoot 119 = .ok (.getfield 39, 3) := by decide +kernel
theorem dX11_reckonRoot_122 : decode cX11_reckonRoot 122 = .ok (.lload 4, 2) := by decide +kernel
theorem dX11_reckonRoot_124 : decode cX11_reckonRoot 124 = .ok (.invokevirtual 311, 3) := by decide +kernel
theorem dX11_reckonRoot_127 : decode cX11_reckonRoot 127 = .ok (.iinc 3 1, 3) := by decide +kernel
theorem dX11_reckonRoot_130 : decode cX11_reckonRoot 130 = .ok (.goto (-36), 3) := by decide +kernel
theorem dX11_reckonRoot_133 : decode cX11_reckonRoot 133 = .ok (.aload_n 1, 1) := by decide +kernel
theorem dX11_reckonRoot_134 : decode cX11_reckonRoot 134 = .ok (.iconst 0, 1) := by decide +kernel
theorem dX11_reckonRoot_135 : decode cX11_reckonRoot 135 = .ok (.putfield 178, 3) := by decide +kernel
theorem dX11_reckonRoot_138 : decode cX11_reckonRoot 138 = .ok (.return_, 1) := by decide +kernel
theorem dX11_triedTerm_0 : decode cX11_triedTerm 0 = .ok (.aload_n 0, 1) := by decide +kernel
theorem dX11_triedTerm_1 : decode cX11_triedTerm 1 = .ok (.getfield 18, 3) := by decide +kernel
theorem dX11_triedTerm_4 : decode cX11_triedTerm 4 = .ok (.invokevirtual 364, 3) := by decide +kernel
theorem dX11_triedTerm_7 : decode cX11_triedTerm 7 = .ok (.aload_n 0, 1) := by decide +kernel
theorem dX11_triedTerm_8 : decode cX11_triedTerm 8 = .ok (.getfield 32, 3) := by decide +kernel
theorem dX11_triedTerm_11 : decode cX11_triedTerm 11 = .ok (.aload_n 0, 1) := by decide +kernel
theorem dX11_triedTerm_12 : decode cX11_triedTerm 12 = .ok (.getfield 18, 3) := by decide +kernel
theorem dX11_triedTerm_15 : decode cX11_triedTerm 15 = .ok (.iload_n 1, 1) := by decide +kernel
theorem dX11_triedTerm_16 : decode cX11_triedTerm 16 = .ok (.iconst 1, 1) := by decide +kernel
theorem dX11_triedTerm_17 : decode cX11_triedTerm 17 = .ok (.iadd, 1) := by decide +kernel
theorem dX11_triedTerm_18 : decode cX11_triedTerm 18 = .ok (.invokevirtual 383, 3) := by decide +kernel
theorem dX11_triedTerm_21 : decode cX11_triedTerm 21 = .ok (.aload_n 0, 1) := by decide +kernel
theorem dX11_triedTerm_22 : decode cX11_triedTerm 22 = .ok (.getfield 18, 3) := by decide +kernel
theorem dX11_triedTerm_25 : decode cX11_triedTerm 25 = .ok (.iload_n 1, 1) := by decide +kernel
theorem dX11_triedTerm_26 : decode cX11_triedTerm 26 = .ok (.invokevirtual 257, 3) := by decide +kernel
theorem dX11_triedTerm_29 : decode cX11_triedTerm 29 = .ok (.ifCond .eq 14, 3) := by decide +kernel
theorem dX11_triedTerm_32 : decode cX11_triedTerm 32 = .ok (.aload_n 0, 1) := by decide +kernel
theorem dX11_triedTerm_33 : decode cX11_triedTerm 33 = .ok (.getfield 18, 3) := by decide +kernel
theorem dX11_triedTerm_36 : decode cX11_triedTerm 36 = .ok (.iload_n 1, 1) := by decide +kernel
theorem dX11_triedTerm_37 : decode cX11_triedTerm 37 = .ok (.invokevirtual 200, 3) := by decide +kernel
theorem dX11_triedTerm_40 : decode cX11_triedTerm 40 = .ok (.goto 6, 3) := by decide +kernel
theorem dX11_triedTerm_43 : decode cX11_triedTerm 43 = .ok (.ldc_w 397, 3) := by decide +kernel
theorem dX11_triedTerm_46 : decode cX11_triedTerm 46 = .ok (.ireturn, 1) := by decide +kernel
theorem dX11_act_0 : decode cX11_act 0 = .ok (.aload_n 0, 1) := by decide +kernel
theorem dX11_act_1 : decode cX11_act 1 = .ok (.getfield 25, 3) := by decide +kernel
theorem dX11_act_4 : decode cX11_act 4 = .ok (.aload_n 1, 1) := by decide +kernel
theorem dX11_act_5 : decode cX11_act 5 = .ok (.invokevirtual 398, 3) := by decide +kernel
theorem dX11_act_8 : decode cX11_act 8 = .ok (.aload_n 0, 1) := by decide +kernel
theorem dX11_act_9 : decode cX11_act 9 = .ok (.aload_n 1, 1) := by decide +kernel
theorem dX11_act_10 : decode cX11_act 10 = .ok (.invokevirtual 149, 3) := by decide +kernel
theorem dX11_act_13 : decode cX11_act 13 = .ok (.aload_n 1, 1) := by decide +kernel
theorem dX11_act_14 : decode cX11_act 14 = .ok (.getfield 168, 3) := by decide +kernel
theorem dX11_act_17 : decode cX11_act 17 = .ok (.areturn, 1) := by decide +kernel
theorem dX11_markStale_0 : decode cX11_markStale 0 = .ok (.aload_n 1, 1) := by decide +kernel
theorem dX11_markStale_1 : decode cX11_markStale 1 = .ok (.iconst 1, 1) := by decide +kernel
theorem dX11_markStale_2 : decode cX11_markStale 2 = .ok (.putfield 356, 3) := by decide +kernel
theorem dX11_markStale_5 : decode cX11_markStale 5 = .ok (.aload_n 1, 1) := by decide +kernel
theorem dX11_markStale_6 : decode cX11_markStale 6 = .ok (.getfield 401, 3) := by decide +kernel
theorem dX11_markStale_9 : decode cX11_markStale 9 = .ok (.iconst 1, 1) := by decide +kernel
theorem dX11_markStale_10 : decode cX11_markStale 10 = .ok (.iadd, 1) := by decide +kernel
theorem dX11_markStale_11 : decode cX11_markStale 11 = .ok (.istore_n 2, 1) := by decide +kernel
theorem dX11_markStale_12 : decode cX11_markStale 12 = .ok (.iload_n 2, 1) := by decide +kernel
theorem dX11_markStale_13 : decode cX11_markStale 13 = .ok (.ifCond .le 64, 3) := by decide +kernel
theorem dX11_markStale_16 : decode cX11_markStale 16 = .ok (.iload_n 2, 1) := by decide +kernel
theorem dX11_markStale_17 : decode cX11_markStale 17 = .ok (.aload_n 0, 1) := by decide +kernel
theorem dX11_markStale_18 : decode cX11_markStale 18 = .ok (.getfield 11, 3) := by decide +kernel
theorem dX11_markStale_21 : decode cX11_markStale 21 = .ok (.arraylength, 1) := by decide +kernel
theorem dX11_markStale_22 : decode cX11_markStale 22 = .ok (.if_icmp .ge 55, 3) := by decide +kernel
theorem dX11_markStale_25 : decode cX11_markStale 25 = .ok (.aload_n 0, 1) := by decide +kernel
theorem dX11_markStale_26 : decode cX11_markStale 26 = .ok (.getfield 11, 3) := by decide +kernel
theorem dX11_markStale_29 : decode cX11_markStale 29 = .ok (.iload_n 2, 1) := by decide +kernel
theorem dX11_markStale_30 : decode cX11_markStale 30 = .ok (.aaload, 1) := by decide +kernel
theorem dX11_markStale_31 : decode cX11_markStale 31 = .ok (.astore_n 3, 1) := by decide +kernel
theorem dX11_markStale_32 : decode cX11_markStale 32 = .ok (.aload_n 3, 1) := by decide +kernel
theorem dX11_markStale_33 : decode cX11_markStale 33 = .ok (.ifnull 38, 3) := by decide +kernel
theorem dX11_markStale_36 : decode cX11_markStale 36 = .ok (.aload_n 0, 1) := by decide +kernel
theorem dX11_markStale_37 : decode cX11_markStale 37 = .ok (.aload_n 3, 1) := by decide +kernel
theorem dX11_markStale_38 : decode cX11_markStale 38 = .ok (.aload_n 3, 1) := by decide +kernel
theorem dX11_markStale_39 : decode cX11_markStale 39 = .ok (.getfield 168, 3) := by decide +kernel
theorem dX11_markStale_42 : decode cX11_markStale 42 = .ok (.getfield 377, 3) := by decide +kernel
theorem dX11_markStale_45 : decode cX11_markStale 45 = .ok (.invokevirtual 404, 3) := by decide +kernel
theorem dX11_markStale_48 : decode cX11_markStale 48 = .ok (.ifCond .ne 18, 3) := by decide +kernel
theorem dX11_markStale_51 : decode cX11_markStale 51 = .ok (.aload_n 0, 1) := by decide +kernel
theorem dX11_markStale_52 : decode cX11_markStale 52 = .ok (.aload_n 3, 1) := by decide +kernel
theorem dX11_markStale_53 : decode cX11_markStale 53 = .ok (.aload_n 3, 1) := by decide +kernel
theorem dX11_markStale_54 : decode cX11_markStale 54 = .ok (.getfield 168, 3) := by decide +kernel
theorem dX11_markStale_57 : decode cX11_markStale 57 = .ok (.getfield 386, 3) := by decide +kernel
theorem dX11_markStale_60 : decode cX11_markStale 60 = .ok (.invokevirtual 404, 3) := by decide +kernel
theorem dX11_markStale_63 : decode cX11_markStale 63 = .ok (.ifCond .eq 8, 3) := by decide +kernel
theorem dX11_markStale_66 : decode cX11_markStale 66 = .ok (.aload_n 3, 1) := by decide +kernel
theorem dX11_markStale_67 : decode cX11_markStale 67 = .ok (.iconst 1, 1) := by decide +kernel
theorem dX11_markStale_68 : decode cX11_markStale 68 = .ok (.putfield 356, 3) := by decide +kernel
theorem dX11_markStale_71 : decode cX11_markStale 71 = .ok (.iinc 2 1, 3) := by decide +kernel
theorem dX11_markStale_74 : decode cX11_markStale 74 = .ok (.goto (-62), 3) := by decide +kernel
theorem dX11_markStale_77 : decode cX11_markStale 77 = .ok (.return_, 1) := by decide +kernel
theorem dX11_isStaleSource_0 : decode cX11_isStaleSource 0 = .ok (.aload_n 0, 1) := by decide +kernel
theorem dX11_isStaleSource_1 : decode cX11_isStaleSource 1 = .ok (.iload_n 2, 1) := by decide +kernel
theorem dX11_isStaleSource_2 : decode cX11_isStaleSource 2 = .ok (.invokevirtual 87, 3) := by decide +kernel
theorem dX11_isStaleSource_5 : decode cX11_isStaleSource 5 = .ok (.astore_n 3, 1) := by decide +kernel
theorem dX11_isStaleSource_6 : decode cX11_isStaleSource 6 = .ok (.aload_n 3, 1) := by decide +kernel
theorem dX11_isStaleSource_7 : decode cX11_isStaleSource 7 = .ok (.ifnull 25, 3) := by decide +kernel
theorem dX11_isStaleSource_10 : decode cX11_isStaleSource 10 = .ok (.aload_n 3, 1) := by decide +kernel
theorem dX11_isStaleSource_11 : decode cX11_isStaleSource 11 = .ok (.getfield 356, 3) := by decide +kernel
theorem dX11_isStaleSource_14 : decode cX11_isStaleSource 14 = .ok (.ifCond .eq 18, 3) := by decide +kernel
theorem dX11_isStaleSource_17 : decode cX11_isStaleSource 17 = .ok (.aload_n 1, 1) := by decide +kernel
theorem dX11_isStaleSource_18 : decode cX11_isStaleSource 18 = .ok (.getfield 168, 3) := by decide +kernel
theorem dX11_isStaleSource_21 : decode cX11_isStaleSource 21 = .ok (.getfield 172, 3) := by decide +kernel
theorem dX11_isStaleSource_24 : decode cX11_isStaleSource 24 = .ok (.iconst 3, 1) := by decide +kernel
theorem dX11_isStaleSource_25 : decode cX11_isStaleSource 25 = .ok (.if_icmp .lt 7, 3) := by decide +kernel
theorem dX11_isStaleSource_28 : decode cX11_isStaleSource 28 = .ok (.iconst 1, 1) := by decide +kernel
theorem dX11_isStaleSource_29 : decode cX11_isStaleSource 29 = .ok (.goto 4, 3) := by decide +kernel
theorem dX11_isStaleSource_32 : decode cX11_isStaleSource 32 = .ok (.iconst 0, 1) := by decide +kernel
theorem dX11_isStaleSource_33 : decode cX11_isStaleSource 33 = .ok (.ireturn, 1) := by decide +kernel
theorem dX11_rowsOfKind_0 : decode cX11_rowsOfKind 0 = .ok (.iconst 0, 1) := by decide +kernel
theorem dX11_rowsOfKind_1 : decode cX11_rowsOfKind 1 = .ok (.istore_n 2, 1) := by decide +kernel
theorem dX11_rowsOfKind_2 : decode cX11_rowsOfKind 2 = .ok (.iconst 0, 1) := by decide +kernel
theorem dX11_rowsOfKind_3 : decode cX11_rowsOfKind 3 = .ok (.istore_n 3, 1) := by decide +kernel
theorem dX11_rowsOfKind_4 : decode cX11_rowsOfKind 4 = .ok (.iload_n 3, 1) := by decide +kernel
theorem dX11_rowsOfKind_5 : decode cX11_rowsOfKind 5 = .ok (.aload_n 0, 1) := by decide +kernel
theorem dX11_rowsOfKind_6 : decode cX11_rowsOfKind 6 = .ok (.getfield 11, 3) := by decide +kernel
theorem dX11_rowsOfKind_9 : decode cX11_rowsOfKind 9 = .ok (.arraylength, 1) := by decide +kernel
theorem dX11_rowsOfKind_10 : decode cX11_rowsOfKind 10 = .ok (.if_icmp .ge 37, 3) := by decide +kernel
theorem dX11_rowsOfKind_13 : decode cX11_rowsOfKind 13 = .ok (.aload_n 0, 1) := by decide +kernel
theorem dX11_rowsOfKind_14 : decode cX11_rowsOfKind 14 = .ok (.getfield 11, 3) := by decide +kernel
theorem dX11_rowsOfKind_17 : decode cX11_rowsOfKind 17 = .ok (.iload_n 3, 1) := by decide +kernel
theorem dX11_rowsOfKind_18 : decode cX11_rowsOfKind 18 = .ok (.aaload, 1) := by decide +kernel
theorem dX11_rowsOfKind_19 : decode cX11_rowsOfKind 19 = .ok (.ifnull 22, 3) := by decide +kernel
theorem dX11_rowsOfKind_22 : decode cX11_rowsOfKind 22 = .ok (.aload_n 0, 1) := by decide +kernel
theorem dX11_rowsOfKind_23 : decode cX11_rowsOfKind 23 = .ok (.getfield 11, 3) := by decide +kernel
theorem dX11_rowsOfKind_26 : decode cX11_rowsOfKind 26 = .ok (.iload_n 3, 1) := by decide +kernel
theorem dX11_rowsOfKind_27 : decode cX11_rowsOfKind 27 = .ok (.aaload, 1) := by decide +kernel
theorem dX11_rowsOfKind_28 : decode cX11_rowsOfKind 28 = .ok (.getfield 168, 3) := by decide +kernel
theorem dX11_rowsOfKind_31 : decode cX11_rowsOfKind 31 = .ok (.getfield 172, 3) := by decide +kernel
theorem dX11_rowsOfKind_34 : decode cX11_rowsOfKind 34 = .ok (.iload_n 1, 1) := by decide +kernel
theorem dX11_rowsOfKind_35 : decode cX11_rowsOfKind 35 = .ok (.if_icmp .ne 6, 3) := by decide +kernel
theorem dX11_rowsOfKind_38 : decode cX11_rowsOfKind 38 = .ok (.iinc 2 1, 3) := by decide +kernel
theorem dX11_rowsOfKind_41 : decode cX11_rowsOfKind 41 = .ok (.iinc 3 1, 3) := by decide +kernel
theorem dX11_rowsOfKind_44 : decode cX11_rowsOfKind 44 = .ok (.goto (-40), 3) := by decide +kernel
theorem dX11_rowsOfKind_47 : decode cX11_rowsOfKind 47 = .ok (.iload_n 2, 1) := by decide +kernel
theorem dX11_rowsOfKind_48 : decode cX11_rowsOfKind 48 = .ok (.ireturn, 1) := by decide +kernel
theorem dX11_rowsThatStop_0 : decode cX11_rowsThatStop 0 = .ok (.aload_n 0, 1) := by decide +kernel
theorem dX11_rowsThatStop_1 : decode cX11_rowsThatStop 1 = .ok (.bipush 9, 2) := by decide +kernel
theorem dX11_rowsThatStop_3 : decode cX11_rowsThatStop 3 = .ok (.invokevirtual 127, 3) := by decide +kernel
theorem dX11_rowsThatStop_6 : decode cX11_rowsThatStop 6 = .ok (.pop, 1) := by decide +kernel
theorem dX11_rowsThatStop_7 : decode cX11_rowsThatStop 7 = .ok (.iconst 0, 1) := by decide +kernel
theorem dX11_rowsThatStop_8 : decode cX11_rowsThatStop 8 = .ok (.istore_n 2, 1) := by decide +kernel
theorem dX11_rowsThatStop_9 : decode cX11_rowsThatStop 9 = .ok (.iconst 0, 1) := by decide +kernel
theorem dX11_rowsThatStop_10 : decode cX11_rowsThatStop 10 = .ok (.istore_n 3, 1) := by decide +kernel
theorem dX11_rowsThatStop_11 : decode cX11_rowsThatStop 11 = .ok (.iload_n 3, 1) := by decide +kernel
theorem dX11_rowsThatStop_12 : decode cX11_rowsThatStop 12 = .ok (.aload_n 0, 1) := by decide +kernel
theorem dX11_rowsThatStop_13 : decode cX11_rowsThatStop 13 = .ok (.getfield 11, 3) := by decide +kernel
theorem dX11_rowsThatStop_16 : decode cX11_rowsThatStop 16 = .ok (.arraylength, 1) := by decide +kernel
theorem dX11_rowsThatStop_17 : decode cX11_rowsThatStop 17 = .ok (.if_icmp .ge 34, 3) := by decide +kernel
theorem dX11_rowsThatStop_20 : decode cX11_rowsThatStop 20 = .ok (.aload_n 0, 1) := by decide +kernel
theorem dX11_rowsThatStop_21 : decode cX11_rowsThatStop 21 = .ok (.getfield 11, 3) := by decide +kernel
theorem dX11_rowsThatStop_24 : decode cX11_rowsThatStop 24 = .ok (.iload_n 3, 1) := by decide +kernel
theorem dX11_rowsThatStop_25 : decode cX11_rowsThatStop 25 = .ok (.aaload, 1) := by decide +kernel
theorem dX11_rowsThatStop_26 : decode cX11_rowsThatStop 26 = .ok (.ifnull 19, 3) := by decide +kernel
theorem dX11_rowsThatStop_29 : decode cX11_rowsThatStop 29 = .ok (.aload_n 0, 1) := by decide +kernel
theorem dX11_rowsThatStop_30 : decode cX11_rowsThatStop 30 = .ok (.getfield 11, 3) := by decide +kernel
theorem dX11_rowsThatStop_33 : decode cX11_rowsThatStop 33 = .ok (.iload_n 3, 1) := by decide +kernel
theorem dX11_rowsThatStop_34 : decode cX11_rowsThatStop 34 = .ok (.aaload, 1) := by decide +kernel
theorem dX11_rowsThatStop_35 : decode cX11_rowsThatStop 35 = .ok (.getfield 178, 3) := by decide +kernel
theorem dX11_rowsThatStop_38 : decode cX11_rowsThatStop 38 = .ok (.iload_n 1, 1) := by decide +kernel
theorem dX11_rowsThatStop_39 : decode cX11_rowsThatStop 39 = .ok (.if_icmp .ne 6, 3) := by decide +kernel
theorem dX11_rowsThatStop_42 : decode cX11_rowsThatStop 42 = .ok (.iinc 2 1, 3) := by decide +kernel
theorem dX11_rowsThatStop_45 : decode cX11_rowsThatStop 45 = .ok (.iinc 3 1, 3) := by decide +kernel
theorem dX11_rowsThatStop_48 : decode cX11_rowsThatStop 48 = .ok (.goto (-37), 3) := by decide +kernel
theorem dX11_rowsThatStop_51 : decode cX11_rowsThatStop 51 = .ok (.iload_n 2, 1) := by decide +kernel
theorem dX11_rowsThatStop_52 : decode cX11_rowsThatStop 52 = .ok (.ireturn, 1) := by decide +kernel
theorem dX11_rowsMadeOf_0 : decode cX11_rowsMadeOf 0 = .ok (.iconst 0, 1) := by decide +kernel
theorem dX11_rowsMadeOf_1 : decode cX11_rowsMadeOf 1 = .ok (.istore_n 2, 1) := by decide +kernel
theorem dX11_rowsMadeOf_2 : decode cX11_rowsMadeOf 2 = .ok (.iconst 0, 1) := by decide +kernel
theorem dX11_rowsMadeOf_3 : decode cX11_rowsMadeOf 3 = .ok (.istore_n 3, 1) := by decide +kernel
theorem dX11_rowsMadeOf_4 : decode cX11_rowsMadeOf 4 = .ok (.iload_n 3, 1) := by decide +kernel
theorem dX11_rowsMadeOf_5 : decode cX11_rowsMadeOf 5 = .ok (.aload_n 0, 1) := by decide +kernel
theorem dX11_rowsMadeOf_6 : decode cX11_rowsMadeOf 6 = .ok (.getfield 11, 3) := by decide +kernel
theorem dX11_rowsMadeOf_9 : decode cX11_rowsMadeOf 9 = .ok (.arraylength, 1) := by decide +kernel
theorem dX11_rowsMadeOf_10 : decode cX11_rowsMadeOf 10 = .ok (.if_icmp .ge 68, 3) := by decide +kernel
theorem dX11_rowsMadeOf_13 : decode cX11_rowsMadeOf 13 = .ok (.aload_n 0, 1) := by decide +kernel
theorem dX11_rowsMadeOf_14 : decode cX11_rowsMadeOf 14 = .ok (.getfield 11, 3) := by decide +kernel
theorem dX11_rowsMadeOf_17 : decode cX11_rowsMadeOf 17 = .ok (.iload_n 3, 1) := by decide +kernel
theorem dX11_rowsMadeOf_18 : decode cX11_rowsMadeOf 18 = .ok (.aaload, 1) := by decide +kernel
theorem dX11_rowsMadeOf_19 : decode cX11_rowsMadeOf 19 = .ok (.ifnonnull 7, 3) := by decide +kernel
theorem dX11_rowsMadeOf_22 : decode cX11_rowsMadeOf 22 = .ok (.aconst_null, 1) := by decide +kernel
theorem dX11_rowsMadeOf_23 : decode cX11_rowsMadeOf 23 = .ok (.goto 12, 3) := by decide +kernel
theorem dX11_rowsMadeOf_26 : decode cX11_rowsMadeOf 26 = .ok (.aload_n 0, 1) := by decide +kernel
theorem dX11_rowsMadeOf_27 : decode cX11_rowsMadeOf 27 = .ok (.getfield 11, 3) := by decide +kernel
theorem dX11_rowsMadeOf_30 : decode cX11_rowsMadeOf 30 = .ok (.iload_n 3, 1) := by decide +kernel
theorem dX11_rowsMadeOf_31 : decode cX11_rowsMadeOf 31 = .ok (.aaload, 1) := by decide +kernel
theorem dX11_rowsMadeOf_32 : decode cX11_rowsMadeOf 32 = .ok (.getfield 168, 3) := by decide +kernel
theorem dX11_rowsMadeOf_35 : decode cX11_rowsMadeOf 35 = .ok (.astore 4, 2) := by decide +kernel
theorem dX11_rowsMadeOf_37 : decode cX11_rowsMadeOf 37 = .ok (.aload 4, 2) := by decide +kernel
theorem dX11_rowsMadeOf_39 : decode cX11_rowsMadeOf 39 = .ok (.ifnull 33, 3) := by decide +kernel
theorem dX11_rowsMadeOf_42 : decode cX11_rowsMadeOf 42 = .ok (.aload 4, 2) := by decide +kernel
theorem dX11_rowsMadeOf_44 : decode cX11_rowsMadeOf 44 = .ok (.getfield 172, 3) := by decide +kernel
theorem dX11_rowsMadeOf_47 : decode cX11_rowsMadeOf 47 = .ok (.iconst 3, 1) := by decide +kernel
theorem dX11_rowsMadeOf_48 : decode cX11_rowsMadeOf 48 = .ok (.if_icmp .lt 24, 3) := by decide +kernel
theorem dX11_rowsMadeOf_51 : decode cX11_rowsMadeOf 51 = .ok (.aload 4, 2) := by decide +kernel
theorem dX11_rowsMadeOf_53 : decode cX11_rowsMadeOf 53 = .ok (.getfield 377, 3) := by decide +kernel
theorem dX11_rowsMadeOf_56 : decode cX11_rowsMadeOf 56 = .ok (.iload_n 1, 1) := by decide +kernel
theorem dX11_rowsMadeOf_57 : decode cX11_rowsMadeOf 57 = .ok (.if_icmp .eq 12, 3) := by decide +kernel
theorem dX11_rowsMadeOf_60 : decode cX11_rowsMadeOf 60 = .ok (.aload 4, 2) := by decide +kernel
theorem dX11_rowsMadeOf_62 : decode cX11_rowsMadeOf 62 = .ok (.getfield 386, 3) := by decide +kernel
theorem dX11_rowsMadeOf_65 : decode cX11_rowsMadeOf 65 = .ok (.iload_n 1, 1) := by decide +kernel
theorem dX11_rowsMadeOf_66 : decode cX11_rowsMadeOf 66 = .ok (.if_icmp .ne 6, 3) := by decide +kernel
theorem dX11_rowsMadeOf_69 : decode cX11_rowsMadeOf 69 = .ok (.iinc 2 1, 3) := by decide +kernel
theorem dX11_rowsMadeOf_72 : decode cX11_rowsMadeOf 72 = .ok (.iinc 3 1, 3) := by decide +kernel
theorem dX11_rowsMadeOf_75 : decode cX11_rowsMadeOf 75 = .ok (.goto (-71), 3) := by decide +kernel
theorem dX11_rowsMadeOf_78 : decode cX11_rowsMadeOf 78 = .ok (.iload_n 2, 1) := by decide +kernel
theorem dX11_rowsMadeOf_79 : decode cX11_rowsMadeOf 79 = .ok (.ireturn, 1) := by decide +kernel
theorem dX11_placesAlike_0 : decode cX11_placesAlike 0 = .ok (.iconst 0, 1) := by decide +kernel
theorem dX11_placesAlike_1 : decode cX11_placesAlike 1 = .ok (.istore_n 2, 1) := by decide +kernel
theorem dX11_placesAlike_2 : decode cX11_placesAlike 2 = .ok (.iload_n 2, 1) := by decide +kernel
theorem dX11_placesAlike_3 : decode cX11_placesAlike 3 = .ok (.bipush 60, 2) := by decide +kernel
theorem dX11_placesAlike_5 : decode cX11_placesAlike 5 = .ok (.if_icmp .ge 38, 3) := by decide +kernel
theorem dX11_placesAlike_8 : decode cX11_placesAlike 8 = .ok (.aload_n 0, 1) := by decide +kernel
theorem dX11_placesAlike_9 : decode cX11_placesAlike 9 = .ok (.iload_n 2, 1) := by decide +kernel
theorem dX11_placesAlike_10 : decode cX11_placesAlike 10 = .ok (.invokevirtual 257, 3) := by decide +kernel
theorem dX11_placesAlike_13 : decode cX11_placesAlike 13 = .ok (.ifCond .eq 30, 3) := by decide +kernel
theorem dX11_placesAlike_16 : decode cX11_placesAlike 16 = .ok (.aload_n 1, 1) := by decide +kernel
theorem dX11_placesAlike_17 : decode cX11_placesAlike 17 = .ok (.iload_n 2, 1) := by decide +kernel
theorem dX11_placesAlike_18 : decode cX11_placesAlike 18 = .ok (.invokevirtual 257, 3) := by decide +kernel
theorem dX11_placesAlike_21 : decode cX11_placesAlike 21 = .ok (.ifCond .eq 22, 3) := by decide +kernel
theorem dX11_placesAlike_24 : decode cX11_placesAlike 24 = .ok (.aload_n 0, 1) := by decide +kernel
theorem dX11_placesAlike_25 : decode cX11_placesAlike 25 = .ok (.iload_n 2, 1) := by decide +kernel
theorem dX11_placesAlike_26 : decode cX11_placesAlike 26 = .ok (.invokevirtual 200, 3) := by decide +kernel
theorem dX11_placesAlike_29 : decode cX11_placesAlike 29 = .ok (.aload_n 1, 1) := by decide +kernel
theorem dX11_placesAlike_30 : decode cX11_placesAlike 30 = .ok (.iload_n 2, 1) := by decide +kernel
theorem dX11_placesAlike_31 : decode cX11_placesAlike 31 = .ok (.invokevirtual 200, 3) := by decide +kernel
theorem dX11_placesAlike_34 : decode cX11_placesAlike 34 = .ok (.if_icmp .ne 9, 3) := by decide +kernel
theorem dX11_placesAlike_37 : decode cX11_placesAlike 37 = .ok (.iinc 2 1, 3) := by decide +kernel
theorem dX11_placesAlike_40 : decode cX11_placesAlike 40 = .ok (.goto (-38), 3) := by decide +kernel
theorem dX11_placesAlike_43 : decode cX11_placesAlike 43 = .ok (.iload_n 2, 1) := by decide +kernel
theorem dX11_placesAlike_44 : decode cX11_placesAlike 44 = .ok (.ireturn, 1) := by decide +kernel
theorem dX11_alikeFrom_0 : decode cX11_alikeFrom 0 = .ok (.bipush 60, 2) := by decide +kernel
theorem dX11_alikeFrom_2 : decode cX11_alikeFrom 2 = .ok (.bipush 60, 2) := by decide +kernel
theorem dX11_alikeFrom_4 : decode cX11_alikeFrom 4 = .ok (.iload_n 2, 1) := by decide +kernel
theorem dX11_alikeFrom_5 : decode cX11_alikeFrom 5 = .ok (.iadd, 1) := by decide +kernel
theorem dX11_alikeFrom_6 : decode cX11_alikeFrom 6 = .ok (.invokestatic 408, 3) := by decide +kernel
theorem dX11_alikeFrom_9 : decode cX11_alikeFrom 9 = .ok (.istore_n 3, 1) := by decide +kernel
theorem dX11_alikeFrom_10 : decode cX11_alikeFrom 10 = .ok (.iload_n 3, 1) := by decide +kernel
theorem dX11_alikeFrom_11 : decode cX11_alikeFrom 11 = .ok (.ifCond .le 33, 3) := by decide +kernel
theorem dX11_alikeFrom_14 : decode cX11_alikeFrom 14 = .ok (.iload_n 3, 1) := by decide +kernel
theorem dX11_alikeFrom_15 : decode cX11_alikeFrom 15 = .ok (.iload_n 2, 1) := by decide +kernel
theorem dX11_alikeFrom_16 : decode cX11_alikeFrom 16 = .ok (.if_icmp .le 28, 3) := by decide +kernel
theorem dX11_alikeFrom_19 : decode cX11_alikeFrom 19 = .ok (.aload_n 0, 1) := by decide +kernel
theorem dX11_alikeFrom_20 : decode cX11_alikeFrom 20 = .ok (.iload_n 3, 1) := by decide +kernel
theorem dX11_alikeFrom_21 : decode cX11_alikeFrom 21 = .ok (.iconst 1, 1) := by decide +kernel
theorem dX11_alikeFrom_22 : decode cX11_alikeFrom 22 = .ok (.isub, 1) := by decide +kernel
theorem dX11_alikeFrom_23 : decode cX11_alikeFrom 23 = .ok (.invokevirtual 200, 3) := by decide +kernel
theorem dX11_alikeFrom_26 : decode cX11_alikeFrom 26 = .ok (.aload_n 1, 1) := by decide +kernel
theorem dX11_alikeFrom_27 : decode cX11_alikeFrom 27 = .ok (.iload_n 3, 1) := by decide +kernel
theorem dX11_alikeFrom_28 : decode cX11_alikeFrom 28 = .ok (.iconst 1, 1) := by decide +kernel
theorem dX11_alikeFrom_29 : decode cX11_alikeFrom 29 = .ok (.isub, 1) := by decide +kernel
theorem dX11_alikeFrom_30 : decode cX11_alikeFrom 30 = .ok (.iload_n 2, 1) := by decide +kernel
theorem dX11_alikeFrom_31 : decode cX11_alikeFrom 31 = .ok (.isub, 1) := by decide +kernel
theorem dX11_alikeFrom_32 : decode cX11_alikeFrom 32 = .ok (.invokevirtual 200, 3) := by decide +kernel
theorem dX11_alikeFrom_35 : decode cX11_alikeFrom 35 = .ok (.if_icmp .ne 9, 3) := by decide +kernel
theorem dX11_alikeFrom_38 : decode cX11_alikeFrom 38 = .ok (.iinc 3 (-1), 3) := by decide +kernel
theorem dX11_alikeFrom_41 : decode cX11_alikeFrom 41 = .ok (.goto (-31), 3) := by decide +kernel
theorem dX11_alikeFrom_44 : decode cX11_alikeFrom 44 = .ok (.iload_n 3, 1) := by decide +kernel
theorem dX11_alikeFrom_45 : decode cX11_alikeFrom 45 = .ok (.ireturn, 1) := by decide +kernel
theorem dX11_comingAgain_0 : decode cX11_comingAgain 0 = .ok (.aload_n 0, 1) := by decide +kernel
theorem dX11_comingAgain_1 : decode cX11_comingAgain 1 = .ok (.getfield 178, 3) := by decide +kernel
theorem dX11_comingAgain_4 : decode cX11_comingAgain 4 = .ok (.ifCond .eq 5, 3) := by decide +kernel
theorem dX11_comingAgain_7 : decode cX11_comingAgain 7 = .ok (.iconst (-1), 1) := by decide +kernel
theorem dX11_comingAgain_8 : decode cX11_comingAgain 8 = .ok (.ireturn, 1) := by decide +kernel
theorem dX11_comingAgain_9 : decode cX11_comingAgain 9 = .ok (.bipush 60, 2) := by decide +kernel
theorem dX11_comingAgain_11 : decode cX11_comingAgain 11 = .ok (.istore_n 1, 1) := by decide +kernel
theorem dX11_comingAgain_12 : decode cX11_comingAgain 12 = .ok (.iconst 0, 1) := by decide +kernel
theorem dX11_comingAgain_13 : decode cX11_comingAgain 13 = .ok (.istore_n 2, 1) := by decide +kernel
theorem dX11_comingAgain_14 : decode cX11_comingAgain 14 = .ok (.iconst 1, 1) := by decide +kernel
theorem dX11_comingAgain_15 : decode cX11_comingAgain 15 = .ok (.istore_n 3, 1) := by decide +kernel
theorem dX11_comingAgain_16 : decode cX11_comingAgain 16 = .ok (.iconst 2, 1) := by decide +kernel
theorem dX11_comingAgain_17 : decode cX11_comingAgain 17 = .ok (.iload_n 3, 1) := by decide +kernel
theorem dX11_comingAgain_18 : decode cX11_comingAgain 18 = .ok (.imul, 1) := by decide +kernel
theorem dX11_comingAgain_19 : decode cX11_comingAgain 19 = .ok (.bipush 60, 2) := by decide +kernel
theorem dX11_comingAgain_21 : decode cX11_comingAgain 21 = .ok (.if_icmp .gt 40, 3) := by decide +kernel
theorem dX11_comingAgain_24 : decode cX11_comingAgain 24 = .ok (.aload_n 0, 1) := by decide +kernel
theorem dX11_comingAgain_25 : decode cX11_comingAgain 25 = .ok (.aload_n 0, 1) := by decide +kernel
theorem dX11_comingAgain_26 : decode cX11_comingAgain 26 = .ok (.iload_n 3, 1) := by decide +kernel
theorem dX11_comingAgain_27 : decode cX11_comingAgain 27 = .ok (.ineg, 1) := by decide +kernel
theorem dX11_comingAgain_28 : decode cX11_comingAgain 28 = .ok (.invokestatic 411, 3) := by decide +kernel
theorem dX11_comingAgain_31 : decode cX11_comingAgain 31 = .ok (.istore 4, 2) := by decide +kernel
theorem dX11_comingAgain_33 : decode cX11_comingAgain 33 = .ok (.iload 4, 2) := by decide +kernel
theorem dX11_comingAgain_35 : decode cX11_comingAgain 35 = .ok (.iconst 2, 1) := by decide +kernel
theorem dX11_comingAgain_36 : decode cX11_comingAgain 36 = .ok (.iload_n 3, 1) := by decide +kernel
theorem dX11_comingAgain_37 : decode cX11_comingAgain 37 = .ok (.imul, 1) := by decide +kernel
theorem dX11_comingAgain_38 : decode cX11_comingAgain 38 = .ok (.iadd, 1) := by decide +kernel
theorem dX11_comingAgain_39 : decode cX11_comingAgain 39 = .ok (.bipush 60, 2) := by decide +kernel
theorem dX11_comingAgain_41 : decode cX11_comingAgain 41 = .ok (.if_icmp .gt 14, 3) := by decide +kernel
theorem dX11_comingAgain_44 : decode cX11_comingAgain 44 = .ok (.iload 4, 2) := by decide +kernel
theorem dX11_comingAgain_46 : decode cX11_comingAgain 46 = .ok (.iload_n 1, 1) := by decide +kernel
theorem dX11_comingAgain_47 : decode cX11_comingAgain 47 = .ok (.if_icmp .ge 8, 3) := by decide +kernel
theorem dX11_comingAgain_50 : decode cX11_comingAgain 50 = .ok (.iload 4, 2) := by decide +kernel
theorem dX11_comingAgain_52 : decode cX11_comingAgain 52 = .ok (.istore_n 1, 1) := by decide +kernel
theorem dX11_comingAgain_53 : decode cX11_comingAgain 53 = .ok (.iload_n 3, 1) := by decide +kernel
theorem dX11_comingAgain_54 : decode cX11_comingAgain 54 = .ok (.istore_n 2, 1) := by decide +kernel
theorem dX11_comingAgain_55 : decode cX11_comingAgain 55 = .ok (.iinc 3 1, 3) := by decide +kernel
theorem dX11_comingAgain_58 : decode cX11_comingAgain 58 = .ok (.goto (-42), 3) := by decide +kernel
theorem dX11_comingAgain_61 : decode cX11_comingAgain 61 = .ok (.iload_n 2, 1) := by decide +kernel
theorem dX11_comingAgain_62 : decode cX11_comingAgain 62 = .ok (.ifCond .ne 7, 3) := by decide +kernel
theorem dX11_comingAgain_65 : decode cX11_comingAgain 65 = .ok (.iconst (-1), 1) := by decide +kernel
theorem dX11_comingAgain_66 : decode cX11_comingAgain 66 = .ok (.goto 9, 3) := by decide +kernel
theorem dX11_comingAgain_69 : decode cX11_comingAgain 69 = .ok (.iload_n 1, 1) := by decide +kernel
theorem dX11_comingAgain_70 : decode cX11_comingAgain 70 = .ok (.bipush 64, 2) := by decide +kernel
theorem dX11_comingAgain_72 : decode cX11_comingAgain 72 = .ok (.imul, 1) := by decide +kernel
theorem dX11_comingAgain_73 : decode cX11_comingAgain 73 = .ok (.iload_n 2, 1) := by decide +kernel
theorem dX11_comingAgain_74 : decode cX11_comingAgain 74 = .ok (.iadd, 1) := by decide +kernel
theorem dX11_comingAgain_75 : decode cX11_comingAgain 75 = .ok (.ireturn, 1) := by decide +kernel
theorem dX11_tailsAlike_0 : decode cX11_tailsAlike 0 = .ok (.aload_n 0, 1) := by decide +kernel
theorem dX11_tailsAlike_1 : decode cX11_tailsAlike 1 = .ok (.getfield 178, 3) := by decide +kernel
theorem dX11_tailsAlike_4 : decode cX11_tailsAlike 4 = .ok (.ifCond .ne 10, 3) := by decide +kernel
theorem dX11_tailsAlike_7 : decode cX11_tailsAlike 7 = .ok (.aload_n 1, 1) := by decide +kernel
theorem dX11_tailsAlike_8 : decode cX11_tailsAlike 8 = .ok (.getfield 178, 3) := by decide +kernel
theorem dX11_tailsAlike_11 : decode cX11_tailsAlike 11 = .ok (.ifCond .eq 5, 3) := by decide +kernel
theorem dX11_tailsAlike_14 : decode cX11_tailsAlike 14 = .ok (.iconst (-1), 1) := by decide +kernel
theorem dX11_tailsAlike_15 : decode cX11_tailsAlike 15 = .ok (.ireturn, 1) := by decide +kernel
theorem dX11_tailsAlike_16 : decode cX11_tailsAlike 16 = .ok (.bipush 40, 2) := by decide +kernel
theorem dX11_tailsAlike_18 : decode cX11_tailsAlike 18 = .ok (.istore_n 2, 1) := by decide +kernel
theorem dX11_tailsAlike_19 : decode cX11_tailsAlike 19 = .ok (.iconst (-1), 1) := by decide +kernel
theorem dX11_tailsAlike_20 : decode cX11_tailsAlike 20 = .ok (.istore_n 3, 1) := by decide +kernel
theorem dX11_tailsAlike_21 : decode cX11_tailsAlike 21 = .ok (.iconst 2, 1) := by decide +kernel
theorem dX11_tailsAlike_22 : decode cX11_tailsAlike 22 = .ok (.iload_n 2, 1) := by decide +kernel
theorem dX11_tailsAlike_23 : decode cX11_tailsAlike 23 = .ok (.imul, 1) := by decide +kernel
theorem dX11_tailsAlike_24 : decode cX11_tailsAlike 24 = .ok (.iconst 1, 1) := by decide +kernel
theorem dX11_tailsAlike_25 : decode cX11_tailsAlike 25 = .ok (.iadd, 1) := by decide +kernel
theorem dX11_tailsAlike_26 : decode cX11_tailsAlike 26 = .ok (.istore 4, 2) := by decide +kernel
theorem dX11_tailsAlike_28 : decode cX11_tailsAlike 28 = .ok (.iload_n 2, 1) := by decide +kernel
theorem dX11_tailsAlike_29 : decode cX11_tailsAlike 29 = .ok (.ineg, 1) := by decide +kernel
theorem dX11_tailsAlike_30 : decode cX11_tailsAlike 30 = .ok (.istore 5, 2) := by decide +kernel
theorem dX11_tailsAlike_32 : decode cX11_tailsAlike 32 = .ok (.iload 5, 2) := by decide +kernel
theorem dX11_tailsAlike_34 : decode cX11_tailsAlike 34 = .ok (.iload_n 2, 1) := by decide +kernel
theorem dX11_tailsAlike_35 : decode cX11_tailsAlike 35 = .ok (.if_icmp .gt 63, 3) := by decide +kernel
theorem dX11_tailsAlike_38 : decode cX11_tailsAlike 38 = .ok (.aload_n 0, 1) := by decide +kernel
theorem dX11_tailsAlike_39 : decode cX11_tailsAlike 39 = .ok (.aload_n 1, 1) := by decide +kernel
theorem dX11_tailsAlike_40 : decode cX11_tailsAlike 40 = .ok (.iload 5, 2) := by decide +kernel
theorem dX11_tailsAlike_42 : decode cX11_tailsAlike 42 = .ok (.invokestatic 411, 3) := by decide +kernel
theorem dX11_tailsAlike_45 : decode cX11_tailsAlike 45 = .ok (.istore 6, 2) := by decide +kernel
theorem dX11_tailsAlike_47 : decode cX11_tailsAlike 47 = .ok (.iload 6, 2) := by decide +kernel
theorem dX11_tailsAlike_49 : decode cX11_tailsAlike 49 = .ok (.iload 5, 2) := by decide +kernel
theorem dX11_tailsAlike_51 : decode cX11_tailsAlike 51 = .ok (.isub, 1) := by decide +kernel
theorem dX11_tailsAlike_52 : decode cX11_tailsAlike 52 = .ok (.istore 7, 2) := by decide +kernel
theorem dX11_tailsAlike_54 : decode cX11_tailsAlike 54 = .ok (.iload 6, 2) := by decide +kernel
theorem dX11_tailsAlike_56 : decode cX11_tailsAlike 56 = .ok (.iload_n 2, 1) := by decide +kernel
theorem dX11_tailsAlike_57 : decode cX11_tailsAlike 57 = .ok (.if_icmp .gt 35, 3) := by decide +kernel
theorem dX11_tailsAlike_60 : decode cX11_tailsAlike 60 = .ok (.iload 7, 2) := by decide +kernel
theorem dX11_tailsAlike_62 : decode cX11_tailsAlike 62 = .ok (.iload_n 2, 1) := by decide +kernel
theorem dX11_tailsAlike_63 : decode cX11_tailsAlike 63 = .ok (.if_icmp .gt 29, 3) := by decide +kernel
theorem dX11_tailsAlike_66 : decode cX11_tailsAlike 66 = .ok (.iload 6, 2) := by decide +kernel
theorem dX11_tailsAlike_68 : decode cX11_tailsAlike 68 = .ok (.iload 7, 2) := by decide +kernel
theorem dX11_tailsAlike_70 : decode cX11_tailsAlike 70 = .ok (.iadd, 1) := by decide +kernel
theorem dX11_tailsAlike_71 : decode cX11_tailsAlike 71 = .ok (.iload 4, 2) := by decide +kernel
theorem dX11_tailsAlike_73 : decode cX11_tailsAlike 73 = .ok (.if_icmp .ge 19, 3) := by decide +kernel
theorem dX11_tailsAlike_76 : decode cX11_tailsAlike 76 = .ok (.iload 6, 2) := by decide +kernel
theorem dX11_tailsAlike_78 : decode cX11_tailsAlike 78 = .ok (.iload 7, 2) := by decide +kernel
theorem dX11_tailsAlike_80 : decode cX11_tailsAlike 80 = .ok (.iadd, 1) := by decide +kernel
theorem dX11_tailsAlike_81 : decode cX11_tailsAlike 81 = .ok (.istore 4, 2) := by decide +kernel
theorem dX11_tailsAlike_83 : decode cX11_tailsAlike 83 = .ok (.iload 6, 2) := by decide +kernel
theorem dX11_tailsAlike_85 : decode cX11_tailsAlike 85 = .ok (.bipush 64, 2) := by decide +kernel
theorem dX11_tailsAlike_87 : decode cX11_tailsAlike 87 = .ok (.imul, 1) := by decide +kernel
theorem dX11_tailsAlike_88 : decode cX11_tailsAlike 88 = .ok (.iload 7, 2) := by decide +kernel
theorem dX11_tailsAlike_90 : decode cX11_tailsAlike 90 = .ok (.iadd, 1) := by decide +kernel
theorem dX11_tailsAlike_91 : decode cX11_tailsAlike 91 = .ok (.istore_n 3, 1) := by decide +kernel
theorem dX11_tailsAlike_92 : decode cX11_tailsAlike 92 = .ok (.iinc 5 1, 3) := by decide +kernel
theorem dX11_tailsAlike_95 : decode cX11_tailsAlike 95 = .ok (.goto (-63), 3) := by decide +kernel
theorem dX11_tailsAlike_98 : decode cX11_tailsAlike 98 = .ok (.iload_n 3, 1) := by decide +kernel
theorem dX11_tailsAlike_99 : decode cX11_tailsAlike 99 = .ok (.ireturn, 1) := by decide +kernel
theorem dX11_partOfPair_0 : decode cX11_partOfPair 0 = .ok (.iload_n 0, 1) := by decide +kernel
theorem dX11_partOfPair_1 : decode cX11_partOfPair 1 = .ok (.iconst (-1), 1) := by decide +kernel
theorem dX11_partOfPair_2 : decode cX11_partOfPair 2 = .ok (.if_icmp .ne 5, 3) := by decide +kernel
theorem dX11_partOfPair_5 : decode cX11_partOfPair 5 = .ok (.iconst (-1), 1) := by decide +kernel
theorem dX11_partOfPair_6 : decode cX11_partOfPair 6 = .ok (.ireturn, 1) := by decide +kernel
theorem dX11_partOfPair_7 : decode cX11_partOfPair 7 = .ok (.iload_n 1, 1) := by decide +kernel
theorem dX11_partOfPair_8 : decode cX11_partOfPair 8 = .ok (.ifCond .ne 10, 3) := by decide +kernel
theorem dX11_partOfPair_11 : decode cX11_partOfPair 11 = .ok (.iload_n 0, 1) := by decide +kernel
theorem dX11_partOfPair_12 : decode cX11_partOfPair 12 = .ok (.bipush 64, 2) := by decide +kernel
theorem dX11_partOfPair_14 : decode cX11_partOfPair 14 = .ok (.idiv, 1) := by decide +kernel
theorem dX11_partOfPair_15 : decode cX11_partOfPair 15 = .ok (.goto 7, 3) := by decide +kernel
theorem dX11_partOfPair_18 : decode cX11_partOfPair 18 = .ok (.iload_n 0, 1) := by decide +kernel
theorem dX11_partOfPair_19 : decode cX11_partOfPair 19 = .ok (.bipush 64, 2) := by decide +kernel
theorem dX11_partOfPair_21 : decode cX11_partOfPair 21 = .ok (.irem, 1) := by decide +kernel
theorem dX11_partOfPair_22 : decode cX11_partOfPair 22 = .ok (.ireturn, 1) := by decide +kernel
theorem dJ13_bitCount_95d88_0 : decode cJ13_bitCount_95d88 0 = .ok (.lload_n 0, 1) := by decide +kernel
theorem dJ13_bitCount_95d88_1 : decode cJ13_bitCount_95d88 1 = .ok (.lload_n 0, 1) := by decide +kernel
theorem dJ13_bitCount_95d88_2 : decode cJ13_bitCount_95d88 2 = .ok (.iconst 1, 1) := by decide +kernel
theorem dJ13_bitCount_95d88_3 : decode cJ13_bitCount_95d88 3 = .ok (.lushr, 1) := by decide +kernel
theorem dJ13_bitCount_95d88_4 : decode cJ13_bitCount_95d88 4 = .ok (.ldc2_w 314, 3) := by decide +kernel
theorem dJ13_bitCount_95d88_7 : decode cJ13_bitCount_95d88 7 = .ok (.land, 1) := by decide +kernel
theorem dJ13_bitCount_95d88_8 : decode cJ13_bitCount_95d88 8 = .ok (.lsub, 1) := by decide +kernel
theorem dJ13_bitCount_95d88_9 : decode cJ13_bitCount_95d88 9 = .ok (.lstore_n 0, 1) := by decide +kernel
theorem dJ13_bitCount_95d88_10 : decode cJ13_bitCount_95d88 10 = .ok (.lload_n 0, 1) := by decide +kernel
theorem dJ13_bitCount_95d88_11 : decode cJ13_bitCount_95d88 11 = .ok (.ldc2_w 316, 3) := by decide +kernel
theorem dJ13_bitCount_95d88_14 : decode cJ13_bitCount_95d88 14 = .ok (.land, 1) := by decide +kernel
theorem dJ13_bitCount_95d88_15 : decode cJ13_bitCount_95d88 15 = .ok (.lload_n 0, 1) := by decide +kernel
theorem dJ13_bitCount_95d88_16 : decode cJ13_bitCount_95d88 16 = .ok (.iconst 2, 1) := by decide +kernel
theorem dJ13_bitCount_95d88_17 : decode cJ13_bitCount_95d88 17 = .ok (.lushr, 1) := by decide +kernel
theorem dJ13_bitCount_95d88_18 : decode cJ13_bitCount_95d88 18 = .ok (.ldc2_w 316, 3) := by decide +kernel
theorem dJ13_bitCount_95d88_21 : decode cJ13_bitCount_95d88 21 = .ok (.land, 1) := by decide +kernel
theorem dJ13_bitCount_95d88_22 : decode cJ13_bitCount_95d88 22 = .ok (.ladd, 1) := by decide +kernel
theorem dJ13_bitCount_95d88_23 : decode cJ13_bitCount_95d88 23 = .ok (.lstore_n 0, 1) := by decide +kernel
theorem dJ13_bitCount_95d88_24 : decode cJ13_bitCount_95d88 24 = .ok (.lload_n 0, 1) := by decide +kernel
theorem dJ13_bitCount_95d88_25 : decode cJ13_bitCount_95d88 25 = .ok (.lload_n 0, 1) := by decide +kernel
theorem dJ13_bitCount_95d88_26 : decode cJ13_bitCount_95d88 26 = .ok (.iconst 4, 1) := by decide +kernel
theorem dJ13_bitCount_95d88_27 : decode cJ13_bitCount_95d88 27 = .ok (.lushr, 1) := by decide +kernel
theorem dJ13_bitCount_95d88_28 : decode cJ13_bitCount_95d88 28 = .ok (.ladd, 1) := by decide +kernel
theorem dJ13_bitCount_95d88_29 : decode cJ13_bitCount_95d88 29 = .ok (.ldc2_w 318, 3) := by decide +kernel
theorem dJ13_bitCount_95d88_32 : decode cJ13_bitCount_95d88 32 = .ok (.land, 1) := by decide +kernel
theorem dJ13_bitCount_95d88_33 : decode cJ13_bitCount_95d88 33 = .ok (.lstore_n 0, 1) := by decide +kernel
theorem dJ13_bitCount_95d88_34 : decode cJ13_bitCount_95d88 34 = .ok (.lload_n 0, 1) := by decide +kernel
theorem dJ13_bitCount_95d88_35 : decode cJ13_bitCount_95d88 35 = .ok (.lload_n 0, 1) := by decide +kernel
theorem dJ13_bitCount_95d88_36 : decode cJ13_bitCount_95d88 36 = .ok (.bipush 8, 2) := by decide +kernel
theorem dJ13_bitCount_95d88_38 : decode cJ13_bitCount_95d88 38 = .ok (.lushr, 1) := by decide +kernel
theorem dJ13_bitCount_95d88_39 : decode cJ13_bitCount_95d88 39 = .ok (.ladd, 1) := by decide +kernel
theorem dJ13_bitCount_95d88_40 : decode cJ13_bitCount_95d88 40 = .ok (.lstore_n 0, 1) := by decide +kernel
theorem dJ13_bitCount_95d88_41 : decode cJ13_bitCount_95d88 41 = .ok (.lload_n 0, 1) := by decide +kernel
theorem dJ13_bitCount_95d88_42 : decode cJ13_bitCount_95d88 42 = .ok (.lload_n 0, 1) := by decide +kernel
theorem dJ13_bitCount_95d88_43 : decode cJ13_bitCount_95d88 43 = .ok (.bipush 16, 2) := by decide +kernel
theorem dJ13_bitCount_95d88_45 : decode cJ13_bitCount_95d88 45 = .ok (.lushr, 1) := by decide +kernel
theorem dJ13_bitCount_95d88_46 : decode cJ13_bitCount_95d88 46 = .ok (.ladd, 1) := by decide +kernel
theorem dJ13_bitCount_95d88_47 : decode cJ13_bitCount_95d88 47 = .ok (.lstore_n 0, 1) := by decide +kernel
theorem dJ13_bitCount_95d88_48 : decode cJ13_bitCount_95d88 48 = .ok (.lload_n 0, 1) := by decide +kernel
theorem dJ13_bitCount_95d88_49 : decode cJ13_bitCount_95d88 49 = .ok (.lload_n 0, 1) := by decide +kernel
theorem dJ13_bitCount_95d88_50 : decode cJ13_bitCount_95d88 50 = .ok (.bipush 32, 2) := by decide +kernel
theorem dJ13_bitCount_95d88_52 : decode cJ13_bitCount_95d88 52 = .ok (.lushr, 1) := by decide +kernel
theorem dJ13_bitCount_95d88_53 : decode cJ13_bitCount_95d88 53 = .ok (.ladd, 1) := by decide +kernel
theorem dJ13_bitCount_95d88_54 : decode cJ13_bitCount_95d88 54 = .ok (.lstore_n 0, 1) := by decide +kernel
theorem dJ13_bitCount_95d88_55 : decode cJ13_bitCount_95d88 55 = .ok (.lload_n 0, 1) := by decide +kernel
theorem dJ13_bitCount_95d88_56 : decode cJ13_bitCount_95d88 56 = .ok (.l2i, 1) := by decide +kernel
theorem dJ13_bitCount_95d88_57 : decode cJ13_bitCount_95d88 57 = .ok (.bipush 127, 2) := by decide +kernel
theorem dJ13_bitCount_95d88_59 : decode cJ13_bitCount_95d88 59 = .ok (.iand, 1) := by decide +kernel
theorem dJ13_bitCount_95d88_60 : decode cJ13_bitCount_95d88 60 = .ok (.ireturn, 1) := by decide +kernel
theorem dJ9_floorDiv_f86c9_0 : decode cJ9_floorDiv_f86c9 0 = .ok (.lload_n 0, 1) := by decide +kernel
theorem dJ9_floorDiv_f86c9_1 : decode cJ9_floorDiv_f86c9 1 = .ok (.lload_n 2, 1) := by decide +kernel
theorem dJ9_floorDiv_f86c9_2 : decode cJ9_floorDiv_f86c9 2 = .ok (.ldiv, 1) := by decide +kernel
theorem dJ9_floorDiv_f86c9_3 : decode cJ9_floorDiv_f86c9 3 = .ok (.lstore 4, 2) := by decide +kernel
theorem dJ9_floorDiv_f86c9_5 : decode cJ9_floorDiv_f86c9 5 = .ok (.lload_n 0, 1) := by decide +kernel
theorem dJ9_floorDiv_f86c9_6 : decode cJ9_floorDiv_f86c9 6 = .ok (.lload_n 2, 1) := by decide +kernel
theorem dJ9_floorDiv_f86c9_7 : decode cJ9_floorDiv_f86c9 7 = .ok (.lxor, 1) := by decide +kernel
theorem dJ9_floorDiv_f86c9_8 : decode cJ9_floorDiv_f86c9 8 = .ok (.lconst 0, 1) := by decide +kernel
theorem dJ9_floorDiv_f86c9_9 : decode cJ9_floorDiv_f86c9 9 = .ok (.lcmp, 1) := by decide +kernel
theorem dJ9_floorDiv_f86c9_10 : decode cJ9_floorDiv_f86c9 10 = .ok (.ifCond .ge 17, 3) := by decide +kernel
theorem dJ9_floorDiv_f86c9_13 : decode cJ9_floorDiv_f86c9 13 = .ok (.lload 4, 2) := by decide +kernel
theorem dJ9_floorDiv_f86c9_15 : decode cJ9_floorDiv_f86c9 15 = .ok (.lload_n 2, 1) := by decide +kernel
theorem dJ9_floorDiv_f86c9_16 : decode cJ9_floorDiv_f86c9 16 = .ok (.lmul, 1) := by decide +kernel
theorem dJ9_floorDiv_f86c9_17 : decode cJ9_floorDiv_f86c9 17 = .ok (.lload_n 0, 1) := by decide +kernel
theorem dJ9_floorDiv_f86c9_18 : decode cJ9_floorDiv_f86c9 18 = .ok (.lcmp, 1) := by decide +kernel
theorem dJ9_floorDiv_f86c9_19 : decode cJ9_floorDiv_f86c9 19 = .ok (.ifCond .eq 8, 3) := by decide +kernel
theorem dJ9_floorDiv_f86c9_22 : decode cJ9_floorDiv_f86c9 22 = .ok (.lload 4, 2) := by decide +kernel
theorem dJ9_floorDiv_f86c9_24 : decode cJ9_floorDiv_f86c9 24 = .ok (.lconst 1, 1) := by decide +kernel
theorem dJ9_floorDiv_f86c9_25 : decode cJ9_floorDiv_f86c9 25 = .ok (.lsub, 1) := by decide +kernel
theorem dJ9_floorDiv_f86c9_26 : decode cJ9_floorDiv_f86c9 26 = .ok (.lreturn, 1) := by decide +kernel
theorem dJ9_floorDiv_f86c9_27 : decode cJ9_floorDiv_f86c9 27 = .ok (.lload 4, 2) := by decide +kernel
theorem dJ9_floorDiv_f86c9_29 : decode cJ9_floorDiv_f86c9 29 = .ok (.lreturn, 1) := by decide +kernel
theorem dJ9_abs_0f7a4_0 : decode cJ9_abs_0f7a4 0 = .ok (.iload_n 0, 1) := by decide +kernel
theorem dJ9_abs_0f7a4_1 : decode cJ9_abs_0f7a4 1 = .ok (.ifCond .ge 8, 3) := by decide +kernel
theorem dJ9_abs_0f7a4_4 : decode cJ9_abs_0f7a4 4 = .ok (.iload_n 0, 1) := by decide +kernel
theorem dJ9_abs_0f7a4_5 : decode cJ9_abs_0f7a4 5 = .ok (.ineg, 1) := by decide +kernel
theorem dJ9_abs_0f7a4_6 : decode cJ9_abs_0f7a4 6 = .ok (.goto 4, 3) := by decide +kernel
theorem dJ9_abs_0f7a4_9 : decode cJ9_abs_0f7a4 9 = .ok (.iload_n 0, 1) := by decide +kernel
theorem dJ9_abs_0f7a4_10 : decode cJ9_abs_0f7a4 10 = .ok (.ireturn, 1) := by decide +kernel
theorem dJ9_abs_067f4_0 : decode cJ9_abs_067f4 0 = .ok (.lload_n 0, 1) := by decide +kernel
theorem dJ9_abs_067f4_1 : decode cJ9_abs_067f4 1 = .ok (.lconst 0, 1) := by decide +kernel
theorem dJ9_abs_067f4_2 : decode cJ9_abs_067f4 2 = .ok (.lcmp, 1) := by decide +kernel
theorem dJ9_abs_067f4_3 : decode cJ9_abs_067f4 3 = .ok (.ifCond .ge 8, 3) := by decide +kernel
theorem dJ9_abs_067f4_6 : decode cJ9_abs_067f4 6 = .ok (.lload_n 0, 1) := by decide +kernel
theorem dJ9_abs_067f4_7 : decode cJ9_abs_067f4 7 = .ok (.lneg, 1) := by decide +kernel
theorem dJ9_abs_067f4_8 : decode cJ9_abs_067f4 8 = .ok (.goto 4, 3) := by decide +kernel
theorem dJ9_abs_067f4_11 : decode cJ9_abs_067f4 11 = .ok (.lload_n 0, 1) := by decide +kernel
theorem dJ9_abs_067f4_12 : decode cJ9_abs_067f4 12 = .ok (.lreturn, 1) := by decide +kernel
theorem dJ9_max_7cf53_0 : decode cJ9_max_7cf53 0 = .ok (.iload_n 0, 1) := by decide +kernel
theorem dJ9_max_7cf53_1 : decode cJ9_max_7cf53 1 = .ok (.iload_n 1, 1) := by decide +kernel
theorem dJ9_max_7cf53_2 : decode cJ9_max_7cf53 2 = .ok (.if_icmp .lt 7, 3) := by decide +kernel
theorem dJ9_max_7cf53_5 : decode cJ9_max_7cf53 5 = .ok (.iload_n 0, 1) := by decide +kernel
theorem dJ9_max_7cf53_6 : decode cJ9_max_7cf53 6 = .ok (.goto 4, 3) := by decide +kernel
theorem dJ9_max_7cf53_9 : decode cJ9_max_7cf53 9 = .ok (.iload_n 1, 1) := by decide +kernel
theorem dJ9_max_7cf53_10 : decode cJ9_max_7cf53 10 = .ok (.ireturn, 1) := by decide +kernel
theorem dJ9_min_7cf53_0 : decode cJ9_min_7cf53 0 = .ok (.iload_n 0, 1) := by decide +kernel
theorem dJ9_min_7cf53_1 : decode cJ9_min_7cf53 1 = .ok (.iload_n 1, 1) := by decide +kernel
theorem dJ9_min_7cf53_2 : decode cJ9_min_7cf53 2 = .ok (.if_icmp .gt 7, 3) := by decide +kernel
theorem dJ9_min_7cf53_5 : decode cJ9_min_7cf53 5 = .ok (.iload_n 0, 1) := by decide +kernel
theorem dJ9_min_7cf53_6 : decode cJ9_min_7cf53 6 = .ok (.goto 4, 3) := by decide +kernel
theorem dJ9_min_7cf53_9 : decode cJ9_min_7cf53 9 = .ok (.iload_n 1, 1) := by decide +kernel
theorem dJ9_min_7cf53_10 : decode cJ9_min_7cf53 10 = .ok (.ireturn, 1) := by decide +kernel
theorem dJ0_length_8abf5_0 : decode cJ0_length_8abf5 0 = .ok (.aload_n 0, 1) := by decide +kernel
theorem dJ0_length_8abf5_1 : decode cJ0_length_8abf5 1 = .ok (.getfield 9, 3) := by decide +kernel
theorem dJ0_length_8abf5_4 : decode cJ0_length_8abf5 4 = .ok (.arraylength, 1) := by decide +kernel
theorem dJ0_length_8abf5_5 : decode cJ0_length_8abf5 5 = .ok (.aload_n 0, 1) := by decide +kernel
theorem dJ0_length_8abf5_6 : decode cJ0_length_8abf5 6 = .ok (.invokevirtual 335, 3) := by decide +kernel
theorem dJ0_length_8abf5_9 : decode cJ0_length_8abf5 9 = .ok (.ishr, 1) := by decide +kernel
theorem dJ0_length_8abf5_10 : decode cJ0_length_8abf5 10 = .ok (.ireturn, 1) := by decide +kernel
theorem dJ0_charAt_5068e_0 : decode cJ0_charAt_5068e 0 = .ok (.aload_n 0, 1) := by decide +kernel
theorem dJ0_charAt_5068e_1 : decode cJ0_charAt_5068e 1 = .ok (.invokevirtual 492, 3) := by decide +kernel
theorem dJ0_charAt_5068e_4 : decode cJ0_charAt_5068e 4 = .ok (.ifCond .eq 12, 3) := by decide +kernel
theorem dJ0_charAt_5068e_7 : decode cJ0_charAt_5068e 7 = .ok (.aload_n 0, 1) := by decide +kernel
theorem dJ0_charAt_5068e_8 : decode cJ0_charAt_5068e 8 = .ok (.getfield 9, 3) := by decide +kernel
theorem dJ0_charAt_5068e_11 : decode cJ0_charAt_5068e 11 = .ok (.iload_n 1, 1) := by decide +kernel
theorem dJ0_charAt_5068e_12 : decode cJ0_charAt_5068e 12 = .ok (.invokestatic 495, 3) := by decide +kernel
theorem dJ0_charAt_5068e_15 : decode cJ0_charAt_5068e 15 = .ok (.ireturn, 1) := by decide +kernel
theorem dJ0_charAt_5068e_16 : decode cJ0_charAt_5068e 16 = .ok (.aload_n 0, 1) := by decide +kernel
theorem dJ0_charAt_5068e_17 : decode cJ0_charAt_5068e 17 = .ok (.getfield 9, 3) := by decide +kernel
theorem dJ0_charAt_5068e_20 : decode cJ0_charAt_5068e 20 = .ok (.iload_n 1, 1) := by decide +kernel
theorem dJ0_charAt_5068e_21 : decode cJ0_charAt_5068e 21 = .ok (.invokestatic 498, 3) := by decide +kernel
theorem dJ0_charAt_5068e_24 : decode cJ0_charAt_5068e 24 = .ok (.ireturn, 1) := by decide +kernel
theorem dJ0_coder_7d493_0 : decode cJ0_coder_7d493 0 = .ok (.getstatic 38, 3) := by decide +kernel
theorem dJ0_coder_7d493_3 : decode cJ0_coder_7d493 3 = .ok (.ifCond .eq 10, 3) := by decide +kernel
theorem dJ0_coder_7d493_6 : decode cJ0_coder_7d493 6 = .ok (.aload_n 0, 1) := by decide +kernel
theorem dJ0_coder_7d493_7 : decode cJ0_coder_7d493 7 = .ok (.getfield 15, 3) := by decide +kernel
theorem dJ0_coder_7d493_10 : decode cJ0_coder_7d493 10 = .ok (.goto 4, 3) := by decide +kernel
theorem dJ0_coder_7d493_13 : decode cJ0_coder_7d493 13 = .ok (.iconst 1, 1) := by decide +kernel
theorem dJ0_coder_7d493_14 : decode cJ0_coder_7d493 14 = .ok (.ireturn, 1) := by decide +kernel
theorem dJ0_isLatin1_aae02_0 : decode cJ0_isLatin1_aae02 0 = .ok (.getstatic 38, 3) := by decide +kernel
theorem dJ0_isLatin1_aae02_3 : decode cJ0_isLatin1_aae02 3 = .ok (.ifCond .eq 14, 3) := by decide +kernel
theorem dJ0_isLatin1_aae02_6 : decode cJ0_isLatin1_aae02 6 = .ok (.aload_n 0, 1) := by decide +kernel
theorem dJ0_isLatin1_aae02_7 : decode cJ0_isLatin1_aae02 7 = .ok (.getfield 15, 3) := by decide +kernel
theorem dJ0_isLatin1_aae02_10 : decode cJ0_isLatin1_aae02 10 = .ok (.ifCond .ne 7, 3) := by decide +kernel
theorem dJ0_isLatin1_aae02_13 : decode cJ0_isLatin1_aae02 13 = .ok (.iconst 1, 1) := by decide +kernel
theorem dJ0_isLatin1_aae02_14 : decode cJ0_isLatin1_aae02 14 = .ok (.goto 4, 3) := by decide +kernel
theorem dJ0_isLatin1_aae02_17 : decode cJ0_isLatin1_aae02 17 = .ok (.iconst 0, 1) := by decide +kernel
theorem dJ0_isLatin1_aae02_18 : decode cJ0_isLatin1_aae02 18 = .ok (.ireturn, 1) := by decide +kernel
theorem dJ0_checkIndex_df160_0 : decode cJ0_checkIndex_df160 0 = .ok (.iload_n 0, 1) := by decide +kernel
theorem dJ0_checkIndex_df160_1 : decode cJ0_checkIndex_df160 1 = .ok (.iload_n 1, 1) := by decide +kernel
theorem dJ0_checkIndex_df160_2 : decode cJ0_checkIndex_df160 2 = .ok (.getstatic 1053, 3) := by decide +kernel
theorem dJ0_checkIndex_df160_5 : decode cJ0_checkIndex_df160 5 = .ok (.invokestatic 1059, 3) := by decide +kernel
theorem dJ0_checkIndex_df160_8 : decode cJ0_checkIndex_df160 8 = .ok (.pop, 1) := by decide +kernel
theorem dJ0_checkIndex_df160_9 : decode cJ0_checkIndex_df160 9 = .ok (.return_, 1) := by decide +kernel
theorem dJ1_charAt_3b067_0 : decode cJ1_charAt_3b067 0 = .ok (.iload_n 1, 1) := by decide +kernel
theorem dJ1_charAt_3b067_1 : decode cJ1_charAt_3b067 1 = .ok (.aload_n 0, 1) := by decide +kernel
theorem dJ1_charAt_3b067_2 : decode cJ1_charAt_3b067 2 = .ok (.arraylength, 1) := by decide +kernel
theorem dJ1_charAt_3b067_3 : decode cJ1_charAt_3b067 3 = .ok (.invokestatic 9, 3) := by decide +kernel
theorem dJ1_charAt_3b067_6 : decode cJ1_charAt_3b067 6 = .ok (.aload_n 0, 1) := by decide +kernel
theorem dJ1_charAt_3b067_7 : decode cJ1_charAt_3b067 7 = .ok (.iload_n 1, 1) := by decide +kernel
theorem dJ1_charAt_3b067_8 : decode cJ1_charAt_3b067 8 = .ok (.baload, 1) := by decide +kernel
theorem dJ1_charAt_3b067_9 : decode cJ1_charAt_3b067 9 = .ok (.sipush 255, 3) := by decide +kernel
theorem dJ1_charAt_3b067_12 : decode cJ1_charAt_3b067 12 = .ok (.iand, 1) := by decide +kernel
theorem dJ1_charAt_3b067_13 : decode cJ1_charAt_3b067 13 = .ok (.i2c, 1) := by decide +kernel
theorem dJ1_charAt_3b067_14 : decode cJ1_charAt_3b067 14 = .ok (.ireturn, 1) := by decide +kernel
theorem dJ2_getChar_3b067_0 : decode cJ2_getChar_3b067 0 = .ok (.getstatic 44, 3) := by decide +kernel
theorem dJ2_getChar_3b067_3 : decode cJ2_getChar_3b067 3 = .ok (.ifCond .ne 25, 3) := by decide +kernel
theorem dJ2_getChar_3b067_6 : decode cJ2_getChar_3b067 6 = .ok (.iload_n 1, 1) := by decide +kernel
theorem dJ2_getChar_3b067_7 : decode cJ2_getChar_3b067 7 = .ok (.ifCond .lt 11, 3) := by decide +kernel
theorem dJ2_getChar_3b067_10 : decode cJ2_getChar_3b067 10 = .ok (.iload_n 1, 1) := by decide +kernel
theorem dJ2_getChar_3b067_11 : decode cJ2_getChar_3b067 11 = .ok (.aload_n 0, 1) := by decide +kernel
theorem dJ2_getChar_3b067_12 : decode cJ2_getChar_3b067 12 = .ok (.invokestatic 48, 3) := by decide +kernel
theorem dJ2_getChar_3b067_15 : decode cJ2_getChar_3b067 15 = .ok (.if_icmp .lt 13, 3) := by decide +kernel
theorem dJ2_getChar_3b067_18 : decode cJ2_getChar_3b067 18 = .ok (.new 52, 3) := by decide +kernel
theorem dJ2_getChar_3b067_21 : decode cJ2_getChar_3b067 21 = .ok (.dup, 1) := by decide +kernel
theorem dJ2_getChar_3b067_22 : decode cJ2_getChar_3b067 22 = .ok (.ldc 54, 2) := by decide +kernel
theorem dJ2_getChar_3b067_24 : decode cJ2_getChar_3b067 24 = .ok (.invokespecial 56, 3) := by decide +kernel
theorem dJ2_getChar_3b067_27 : decode cJ2_getChar_3b067 27 = .ok (.athrow, 1) := by decide +kernel
theorem dJ2_getChar_3b067_28 : decode cJ2_getChar_3b067 28 = .ok (.iload_n 1, 1) := by decide +kernel
theorem dJ2_getChar_3b067_29 : decode cJ2_getChar_3b067 29 = .ok (.iconst 1, 1) := by decide +kernel
theorem dJ2_getChar_3b067_30 : decode cJ2_getChar_3b067 30 = .ok (.ishl, 1) := by decide +kernel
theorem dJ2_getChar_3b067_31 : decode cJ2_getChar_3b067 31 = .ok (.istore_n 1, 1) := by decide +kernel
theorem dJ2_getChar_3b067_32 : decode cJ2_getChar_3b067 32 = .ok (.aload_n 0, 1) := by decide +kernel
theorem dJ2_getChar_3b067_33 : decode cJ2_getChar_3b067 33 = .ok (.iload_n 1, 1) := by decide +kernel
theorem dJ2_getChar_3b067_34 : decode cJ2_getChar_3b067 34 = .ok (.iinc 1 1, 3) := by decide +kernel
theorem dJ2_getChar_3b067_37 : decode cJ2_getChar_3b067 37 = .ok (.baload, 1) := by decide +kernel
theorem dJ2_getChar_3b067_38 : decode cJ2_getChar_3b067 38 = .ok (.sipush 255, 3) := by decide +kernel
theorem dJ2_getChar_3b067_41 : decode cJ2_getChar_3b067 41 = .ok (.iand, 1) := by decide +kernel
theorem dJ2_getChar_3b067_42 : decode cJ2_getChar_3b067 42 = .ok (.getstatic 59, 3) := by decide +kernel
theorem dJ2_getChar_3b067_45 : decode cJ2_getChar_3b067 45 = .ok (.ishl, 1) := by decide +kernel
theorem dJ2_getChar_3b067_46 : decode cJ2_getChar_3b067 46 = .ok (.aload_n 0, 1) := by decide +kernel
theorem dJ2_getChar_3b067_47 : decode cJ2_getChar_3b067 47 = .ok (.iload_n 1, 1) := by decide +kernel
theorem dJ2_getChar_3b067_48 : decode cJ2_getChar_3b067 48 = .ok (.baload, 1) := by decide +kernel
theorem dJ2_getChar_3b067_49 : decode cJ2_getChar_3b067 49 = .ok (.sipush 255, 3) := by decide +kernel
theorem dJ2_getChar_3b067_52 : decode cJ2_getChar_3b067 52 = .ok (.iand, 1) := by decide +kernel
theorem dJ2_getChar_3b067_53 : decode cJ2_getChar_3b067 53 = .ok (.getstatic 63, 3) := by decide +kernel
theorem dJ2_getChar_3b067_56 : decode cJ2_getChar_3b067 56 = .ok (.ishl, 1) := by decide +kernel
theorem dJ2_getChar_3b067_57 : decode cJ2_getChar_3b067 57 = .ok (.ior, 1) := by decide +kernel
theorem dJ2_getChar_3b067_58 : decode cJ2_getChar_3b067 58 = .ok (.i2c, 1) := by decide +kernel
theorem dJ2_getChar_3b067_59 : decode cJ2_getChar_3b067 59 = .ok (.ireturn, 1) := by decide +kernel
theorem dJ2_length_9d52b_0 : decode cJ2_length_9d52b 0 = .ok (.aload_n 0, 1) := by decide +kernel
theorem dJ2_length_9d52b_1 : decode cJ2_length_9d52b 1 = .ok (.arraylength, 1) := by decide +kernel
theorem dJ2_length_9d52b_2 : decode cJ2_length_9d52b 2 = .ok (.iconst 1, 1) := by decide +kernel
theorem dJ2_length_9d52b_3 : decode cJ2_length_9d52b 3 = .ok (.ishr, 1) := by decide +kernel
theorem dJ2_length_9d52b_4 : decode cJ2_length_9d52b 4 = .ok (.ireturn, 1) := by decide +kernel
theorem dJ2_charAt_3b067_0 : decode cJ2_charAt_3b067 0 = .ok (.iload_n 1, 1) := by decide +kernel
theorem dJ2_charAt_3b067_1 : decode cJ2_charAt_3b067 1 = .ok (.aload_n 0, 1) := by decide +kernel
theorem dJ2_charAt_3b067_2 : decode cJ2_charAt_3b067 2 = .ok (.invokestatic 67, 3) := by decide +kernel
theorem dJ2_charAt_3b067_5 : decode cJ2_charAt_3b067 5 = .ok (.aload_n 0, 1) := by decide +kernel
theorem dJ2_charAt_3b067_6 : decode cJ2_charAt_3b067 6 = .ok (.iload_n 1, 1) := by decide +kernel
theorem dJ2_charAt_3b067_7 : decode cJ2_charAt_3b067 7 = .ok (.invokestatic 71, 3) := by decide +kernel
theorem dJ2_charAt_3b067_10 : decode cJ2_charAt_3b067 10 = .ok (.ireturn, 1) := by decide +kernel
theorem dJ2_checkIndex_2214a_0 : decode cJ2_checkIndex_2214a 0 = .ok (.iload_n 0, 1) := by decide +kernel
theorem dJ2_checkIndex_2214a_1 : decode cJ2_checkIndex_2214a 1 = .ok (.aload_n 1, 1) := by decide +kernel
theorem dJ2_checkIndex_2214a_2 : decode cJ2_checkIndex_2214a 2 = .ok (.invokestatic 48, 3) := by decide +kernel
theorem dJ2_checkIndex_2214a_5 : decode cJ2_checkIndex_2214a 5 = .ok (.invokestatic 414, 3) := by decide +kernel
theorem dJ2_checkIndex_2214a_8 : decode cJ2_checkIndex_2214a 8 = .ok (.return_, 1) := by decide +kernel
theorem dJ3_checkIndex_8e157_0 : decode cJ3_checkIndex_8e157 0 = .ok (.iload_n 0, 1) := by decide +kernel
theorem dJ3_checkIndex_8e157_1 : decode cJ3_checkIndex_8e157 1 = .ok (.ifCond .lt 8, 3) := by decide +kernel
theorem dJ3_checkIndex_8e157_4 : decode cJ3_checkIndex_8e157 4 = .ok (.iload_n 0, 1) := by decide +kernel
theorem dJ3_checkIndex_8e157_5 : decode cJ3_checkIndex_8e157 5 = .ok (.iload_n 1, 1) := by decide +kernel
theorem dJ3_checkIndex_8e157_6 : decode cJ3_checkIndex_8e157 6 = .ok (.if_icmp .lt 10, 3) := by decide +kernel
theorem dJ3_checkIndex_8e157_9 : decode cJ3_checkIndex_8e157 9 = .ok (.aload_n 2, 1) := by decide +kernel
theorem dJ3_checkIndex_8e157_10 : decode cJ3_checkIndex_8e157 10 = .ok (.iload_n 0, 1) := by decide +kernel
theorem dJ3_checkIndex_8e157_11 : decode cJ3_checkIndex_8e157 11 = .ok (.iload_n 1, 1) := by decide +kernel
theorem dJ3_checkIndex_8e157_12 : decode cJ3_checkIndex_8e157 12 = .ok (.invokestatic 95, 3) := by decide +kernel
theorem dJ3_checkIndex_8e157_15 : decode cJ3_checkIndex_8e157 15 = .ok (.athrow, 1) := by decide +kernel
theorem dJ3_checkIndex_8e157_16 : decode cJ3_checkIndex_8e157 16 = .ok (.iload_n 0, 1) := by decide +kernel
theorem dJ3_checkIndex_8e157_17 : decode cJ3_checkIndex_8e157 17 = .ok (.ireturn, 1) := by decide +kernel
