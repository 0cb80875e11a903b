theorem dX0_init_0 : decode cX0_init 0 = .ok (.aload_n 0, 1) := by decide +kernel
theorem dX0_init_1 : decode cX0_init 1 = .ok (.invokespecial 3, 3) := by decide +kernel
theorem dX0_init_4 : decode cX0_init 4 = .ok (.aload_n 0, 1) := by decide +kernel
theorem dX0_init_5 : decode cX0_init 5 = .ok (.sipush 2000, 3) := by decide +kernel
theorem dX0_init_8 : decode cX0_init 8 = .ok (.putfield 9, 3) := by decide +kernel
theorem dX0_init_11 : decode cX0_init 11 = .ok (.aload_n 0, 1) := by decide +kernel
theorem dX0_init_12 : decode cX0_init 12 = .ok (.iconst 1, 1) := by decide +kernel
theorem dX0_init_13 : decode cX0_init 13 = .ok (.putfield 15, 3) := by decide +kernel
theorem dX0_init_16 : decode cX0_init 16 = .ok (.aload_n 0, 1) := by decide +kernel
theorem dX0_init_17 : decode cX0_init 17 = .ok (.iconst 1, 1) := by decide +kernel
theorem dX0_init_18 : decode cX0_init 18 = .ok (.putfield 18, 3) := by decide +kernel
theorem dX0_init_21 : decode cX0_init 21 = .ok (.return_, 1) := by decide +kernel
theorem dX0_put_0 : decode cX0_put 0 = .ok (.aload_n 0, 1) := by decide +kernel
theorem dX0_put_1 : decode cX0_put 1 = .ok (.iload_n 1, 1) := by decide +kernel
theorem dX0_put_2 : decode cX0_put 2 = .ok (.putfield 9, 3) := by decide +kernel
theorem dX0_put_5 : decode cX0_put 5 = .ok (.aload_n 0, 1) := by decide +kernel
theorem dX0_put_6 : decode cX0_put 6 = .ok (.iload_n 2, 1) := by decide +kernel
theorem dX0_put_7 : decode cX0_put 7 = .ok (.putfield 15, 3) := by decide +kernel
theorem dX0_put_10 : decode cX0_put 10 = .ok (.aload_n 0, 1) := by decide +kernel
theorem dX0_put_11 : decode cX0_put 11 = .ok (.iload_n 3, 1) := by decide +kernel
theorem dX0_put_12 : decode cX0_put 12 = .ok (.putfield 18, 3) := by decide +kernel
theorem dX0_put_15 : decode cX0_put 15 = .ok (.return_, 1) := by decide +kernel
theorem dX0_putDay_0 : decode cX0_putDay 0 = .ok (.aload_n 0, 1) := by decide +kernel
theorem dX0_putDay_1 : decode cX0_putDay 1 = .ok (.aload_n 1, 1) := by decide +kernel
theorem dX0_putDay_2 : decode cX0_putDay 2 = .ok (.getfield 9, 3) := by decide +kernel
theorem dX0_putDay_5 : decode cX0_putDay 5 = .ok (.aload_n 1, 1) := by decide +kernel
theorem dX0_putDay_6 : decode cX0_putDay 6 = .ok (.getfield 15, 3) := by decide +kernel
theorem dX0_putDay_9 : decode cX0_putDay 9 = .ok (.aload_n 1, 1) := by decide +kernel
theorem dX0_putDay_10 : decode cX0_putDay 10 = .ok (.getfield 18, 3) := by decide +kernel
theorem dX0_putDay_13 : decode cX0_putDay 13 = .ok (.invokevirtual 21, 3) := by decide +kernel
theorem dX0_putDay_16 : decode cX0_putDay 16 = .ok (.return_, 1) := by decide +kernel
theorem dX0_putMoved_0 : decode cX0_putMoved 0 = .ok (.aload_n 1, 1) := by decide +kernel
theorem dX0_putMoved_1 : decode cX0_putMoved 1 = .ok (.invokevirtual 25, 3) := by decide +kernel
theorem dX0_putMoved_4 : decode cX0_putMoved 4 = .ok (.i2l, 1) := by decide +kernel
theorem dX0_putMoved_5 : decode cX0_putMoved 5 = .ok (.lload_n 2, 1) := by decide +kernel
theorem dX0_putMoved_6 : decode cX0_putMoved 6 = .ok (.ladd, 1) := by decide +kernel
theorem dX0_putMoved_7 : decode cX0_putMoved 7 = .ok (.lstore 6, 2) := by decide +kernel
theorem dX0_putMoved_9 : decode cX0_putMoved 9 = .ok (.lload 6, 2) := by decide +kernel
theorem dX0_putMoved_11 : decode cX0_putMoved 11 = .ok (.ldc2_w 29, 3) := by decide +kernel
theorem dX0_putMoved_14 : decode cX0_putMoved 14 = .ok (.lcmp, 1) := by decide +kernel
theorem dX0_putMoved_15 : decode cX0_putMoved 15 = .ok (.ifCond .lt 12, 3) := by decide +kernel
theorem dX0_putMoved_18 : decode cX0_putMoved 18 = .ok (.lload 6, 2) := by decide +kernel
theorem dX0_putMoved_20 : decode cX0_putMoved 20 = .ok (.ldc2_w 31, 3) := by decide +kernel
theorem dX0_putMoved_23 : decode cX0_putMoved 23 = .ok (.lcmp, 1) := by decide +kernel
theorem dX0_putMoved_24 : decode cX0_putMoved 24 = .ok (.ifCond .lt 5, 3) := by decide +kernel
theorem dX0_putMoved_27 : decode cX0_putMoved 27 = .ok (.iconst 0, 1) := by decide +kernel
theorem dX0_putMoved_28 : decode cX0_putMoved 28 = .ok (.ireturn, 1) := by decide +kernel
theorem dX0_putMoved_29 : decode cX0_putMoved 29 = .ok (.aload_n 1, 1) := by decide +kernel
theorem dX0_putMoved_30 : decode cX0_putMoved 30 = .ok (.lload_n 2, 1) := by decide +kernel
theorem dX0_putMoved_31 : decode cX0_putMoved 31 = .ok (.l2i, 1) := by decide +kernel
theorem dX0_putMoved_32 : decode cX0_putMoved 32 = .ok (.invokevirtual 33, 3) := by decide +kernel
theorem dX0_putMoved_35 : decode cX0_putMoved 35 = .ok (.i2l, 1) := by decide +kernel
theorem dX0_putMoved_36 : decode cX0_putMoved 36 = .ok (.lload 4, 2) := by decide +kernel
theorem dX0_putMoved_38 : decode cX0_putMoved 38 = .ok (.ladd, 1) := by decide +kernel
theorem dX0_putMoved_39 : decode cX0_putMoved 39 = .ok (.lstore 8, 2) := by decide +kernel
theorem dX0_putMoved_41 : decode cX0_putMoved 41 = .ok (.lload 8, 2) := by decide +kernel
theorem dX0_putMoved_43 : decode cX0_putMoved 43 = .ok (.ldc2_w 37, 3) := by decide +kernel
theorem dX0_putMoved_46 : decode cX0_putMoved 46 = .ok (.lcmp, 1) := by decide +kernel
theorem dX0_putMoved_47 : decode cX0_putMoved 47 = .ok (.ifCond .lt 12, 3) := by decide +kernel
theorem dX0_putMoved_50 : decode cX0_putMoved 50 = .ok (.lload 8, 2) := by decide +kernel
theorem dX0_putMoved_52 : decode cX0_putMoved 52 = .ok (.ldc2_w 39, 3) := by decide +kernel
theorem dX0_putMoved_55 : decode cX0_putMoved 55 = .ok (.lcmp, 1) := by decide +kernel
theorem dX0_putMoved_56 : decode cX0_putMoved 56 = .ok (.ifCond .le 5, 3) := by decide +kernel
theorem dX0_putMoved_59 : decode cX0_putMoved 59 = .ok (.iconst 0, 1) := by decide +kernel
theorem dX0_putMoved_60 : decode cX0_putMoved 60 = .ok (.ireturn, 1) := by decide +kernel
theorem dX0_putMoved_61 : decode cX0_putMoved 61 = .ok (.aload_n 0, 1) := by decide +kernel
theorem dX0_putMoved_62 : decode cX0_putMoved 62 = .ok (.lload 8, 2) := by decide +kernel
theorem dX0_putMoved_64 : decode cX0_putMoved 64 = .ok (.l2i, 1) := by decide +kernel
theorem dX0_putMoved_65 : decode cX0_putMoved 65 = .ok (.invokevirtual 41, 3) := by decide +kernel
theorem dX0_putMoved_68 : decode cX0_putMoved 68 = .ok (.iconst 1, 1) := by decide +kernel
theorem dX0_putMoved_69 : decode cX0_putMoved 69 = .ok (.ireturn, 1) := by decide +kernel
theorem dX0_putDayNumber_0 : decode cX0_putDayNumber 0 = .ok (.iload_n 1, 1) := by decide +kernel
theorem dX0_putDayNumber_1 : decode cX0_putDayNumber 1 = .ok (.ldc 45, 2) := by decide +kernel
theorem dX0_putDayNumber_3 : decode cX0_putDayNumber 3 = .ok (.iadd, 1) := by decide +kernel
theorem dX0_putDayNumber_4 : decode cX0_putDayNumber 4 = .ok (.istore_n 2, 1) := by decide +kernel
theorem dX0_putDayNumber_5 : decode cX0_putDayNumber 5 = .ok (.sipush 1600, 3) := by decide +kernel
theorem dX0_putDayNumber_8 : decode cX0_putDayNumber 8 = .ok (.iload_n 2, 1) := by decide +kernel
theorem dX0_putDayNumber_9 : decode cX0_putDayNumber 9 = .ok (.sipush 366, 3) := by decide +kernel
theorem dX0_putDayNumber_12 : decode cX0_putDayNumber 12 = .ok (.idiv, 1) := by decide +kernel
theorem dX0_putDayNumber_13 : decode cX0_putDayNumber 13 = .ok (.iadd, 1) := by decide +kernel
theorem dX0_putDayNumber_14 : decode cX0_putDayNumber 14 = .ok (.istore_n 3, 1) := by decide +kernel
theorem dX0_putDayNumber_15 : decode cX0_putDayNumber 15 = .ok (.iload_n 3, 1) := by decide +kernel
theorem dX0_putDayNumber_16 : decode cX0_putDayNumber 16 = .ok (.sipush 2400, 3) := by decide +kernel
theorem dX0_putDayNumber_19 : decode cX0_putDayNumber 19 = .ok (.if_icmp .ge 19, 3) := by decide +kernel
theorem dX0_putDayNumber_22 : decode cX0_putDayNumber 22 = .ok (.iload_n 3, 1) := by decide +kernel
theorem dX0_putDayNumber_23 : decode cX0_putDayNumber 23 = .ok (.iconst 1, 1) := by decide +kernel
theorem dX0_putDayNumber_24 : decode cX0_putDayNumber 24 = .ok (.iadd, 1) := by decide +kernel
theorem dX0_putDayNumber_25 : decode cX0_putDayNumber 25 = .ok (.invokestatic 46, 3) := by decide +kernel
theorem dX0_putDayNumber_28 : decode cX0_putDayNumber 28 = .ok (.iload_n 2, 1) := by decide +kernel
theorem dX0_putDayNumber_29 : decode cX0_putDayNumber 29 = .ok (.if_icmp .gt 9, 3) := by decide +kernel
theorem dX0_putDayNumber_32 : decode cX0_putDayNumber 32 = .ok (.iinc 3 1, 3) := by decide +kernel
theorem dX0_putDayNumber_35 : decode cX0_putDayNumber 35 = .ok (.goto (-20), 3) := by decide +kernel
theorem dX0_putDayNumber_38 : decode cX0_putDayNumber 38 = .ok (.iload_n 2, 1) := by decide +kernel
theorem dX0_putDayNumber_39 : decode cX0_putDayNumber 39 = .ok (.iload_n 3, 1) := by decide +kernel
theorem dX0_putDayNumber_40 : decode cX0_putDayNumber 40 = .ok (.invokestatic 46, 3) := by decide +kernel
theorem dX0_putDayNumber_43 : decode cX0_putDayNumber 43 = .ok (.isub, 1) := by decide +kernel
theorem dX0_putDayNumber_44 : decode cX0_putDayNumber 44 = .ok (.istore_n 2, 1) := by decide +kernel
theorem dX0_putDayNumber_45 : decode cX0_putDayNumber 45 = .ok (.iconst 1, 1) := by decide +kernel
theorem dX0_putDayNumber_46 : decode cX0_putDayNumber 46 = .ok (.istore 4, 2) := by decide +kernel
theorem dX0_putDayNumber_48 : decode cX0_putDayNumber 48 = .ok (.iload 4, 2) := by decide +kernel
theorem dX0_putDayNumber_50 : decode cX0_putDayNumber 50 = .ok (.bipush 12, 2) := by decide +kernel
theorem dX0_putDayNumber_52 : decode cX0_putDayNumber 52 = .ok (.if_icmp .ge 28, 3) := by decide +kernel
theorem dX0_putDayNumber_55 : decode cX0_putDayNumber 55 = .ok (.iload_n 2, 1) := by decide +kernel
theorem dX0_putDayNumber_56 : decode cX0_putDayNumber 56 = .ok (.iload_n 3, 1) := by decide +kernel
theorem dX0_putDayNumber_57 : decode cX0_putDayNumber 57 = .ok (.iload 4, 2) := by decide +kernel
theorem dX0_putDayNumber_59 : decode cX0_putDayNumber 59 = .ok (.invokestatic 49, 3) := by decide +kernel
theorem dX0_putDayNumber_62 : decode cX0_putDayNumber 62 = .ok (.if_icmp .lt 18, 3) := by decide +kernel
theorem dX0_putDayNumber_65 : decode cX0_putDayNumber 65 = .ok (.iload_n 2, 1) := by decide +kernel
theorem dX0_putDayNumber_66 : decode cX0_putDayNumber 66 = .ok (.iload_n 3, 1) := by decide +kernel
theorem dX0_putDayNumber_67 : decode cX0_putDayNumber 67 = .ok (.iload 4, 2) := by decide +kernel
theorem dX0_putDayNumber_69 : decode cX0_putDayNumber 69 = .ok (.invokestatic 49, 3) := by decide +kernel
theorem dX0_putDayNumber_72 : decode cX0_putDayNumber 72 = .ok (.isub, 1) := by decide +kernel
theorem dX0_putDayNumber_73 : decode cX0_putDayNumber 73 = .ok (.istore_n 2, 1) := by decide +kernel
theorem dX0_putDayNumber_74 : decode cX0_putDayNumber 74 = .ok (.iinc 4 1, 3) := by decide +kernel
theorem dX0_putDayNumber_77 : decode cX0_putDayNumber 77 = .ok (.goto (-29), 3) := by decide +kernel
theorem dX0_putDayNumber_80 : decode cX0_putDayNumber 80 = .ok (.aload_n 0, 1) := by decide +kernel
theorem dX0_putDayNumber_81 : decode cX0_putDayNumber 81 = .ok (.iload_n 3, 1) := by decide +kernel
theorem dX0_putDayNumber_82 : decode cX0_putDayNumber 82 = .ok (.iload 4, 2) := by decide +kernel
theorem dX0_putDayNumber_84 : decode cX0_putDayNumber 84 = .ok (.iload_n 2, 1) := by decide +kernel
theorem dX0_putDayNumber_85 : decode cX0_putDayNumber 85 = .ok (.iconst 1, 1) := by decide +kernel
theorem dX0_putDayNumber_86 : decode cX0_putDayNumber 86 = .ok (.iadd, 1) := by decide +kernel
theorem dX0_putDayNumber_87 : decode cX0_putDayNumber 87 = .ok (.invokevirtual 21, 3) := by decide +kernel
theorem dX0_putDayNumber_90 : decode cX0_putDayNumber 90 = .ok (.return_, 1) := by decide +kernel
theorem dX0_monthPlace_0 : decode cX0_monthPlace 0 = .ok (.aload_n 0, 1) := by decide +kernel
theorem dX0_monthPlace_1 : decode cX0_monthPlace 1 = .ok (.getfield 9, 3) := by decide +kernel
theorem dX0_monthPlace_4 : decode cX0_monthPlace 4 = .ok (.bipush 12, 2) := by decide +kernel
theorem dX0_monthPlace_6 : decode cX0_monthPlace 6 = .ok (.imul, 1) := by decide +kernel
theorem dX0_monthPlace_7 : decode cX0_monthPlace 7 = .ok (.aload_n 0, 1) := by decide +kernel
theorem dX0_monthPlace_8 : decode cX0_monthPlace 8 = .ok (.getfield 15, 3) := by decide +kernel
theorem dX0_monthPlace_11 : decode cX0_monthPlace 11 = .ok (.iadd, 1) := by decide +kernel
theorem dX0_monthPlace_12 : decode cX0_monthPlace 12 = .ok (.iconst 1, 1) := by decide +kernel
theorem dX0_monthPlace_13 : decode cX0_monthPlace 13 = .ok (.isub, 1) := by decide +kernel
theorem dX0_monthPlace_14 : decode cX0_monthPlace 14 = .ok (.ireturn, 1) := by decide +kernel
theorem dX0_dayNumber_0 : decode cX0_dayNumber 0 = .ok (.aload_n 0, 1) := by decide +kernel
theorem dX0_dayNumber_1 : decode cX0_dayNumber 1 = .ok (.getfield 9, 3) := by decide +kernel
theorem dX0_dayNumber_4 : decode cX0_dayNumber 4 = .ok (.aload_n 0, 1) := by decide +kernel
theorem dX0_dayNumber_5 : decode cX0_dayNumber 5 = .ok (.getfield 15, 3) := by decide +kernel
theorem dX0_dayNumber_8 : decode cX0_dayNumber 8 = .ok (.aload_n 0, 1) := by decide +kernel
theorem dX0_dayNumber_9 : decode cX0_dayNumber 9 = .ok (.getfield 18, 3) := by decide +kernel
theorem dX0_dayNumber_12 : decode cX0_dayNumber 12 = .ok (.invokestatic 53, 3) := by decide +kernel
theorem dX0_dayNumber_15 : decode cX0_dayNumber 15 = .ok (.ireturn, 1) := by decide +kernel
theorem dX0_dayNumberMonthsOn_0 : decode cX0_dayNumberMonthsOn 0 = .ok (.aload_n 0, 1) := by decide +kernel
theorem dX0_dayNumberMonthsOn_1 : decode cX0_dayNumberMonthsOn 1 = .ok (.invokevirtual 25, 3) := by decide +kernel
theorem dX0_dayNumberMonthsOn_4 : decode cX0_dayNumberMonthsOn 4 = .ok (.iload_n 1, 1) := by decide +kernel
theorem dX0_dayNumberMonthsOn_5 : decode cX0_dayNumberMonthsOn 5 = .ok (.iadd, 1) := by decide +kernel
theorem dX0_dayNumberMonthsOn_6 : decode cX0_dayNumberMonthsOn 6 = .ok (.istore_n 2, 1) := by decide +kernel
theorem dX0_dayNumberMonthsOn_7 : decode cX0_dayNumberMonthsOn 7 = .ok (.iload_n 2, 1) := by decide +kernel
theorem dX0_dayNumberMonthsOn_8 : decode cX0_dayNumberMonthsOn 8 = .ok (.bipush 12, 2) := by decide +kernel
theorem dX0_dayNumberMonthsOn_10 : decode cX0_dayNumberMonthsOn 10 = .ok (.idiv, 1) := by decide +kernel
theorem dX0_dayNumberMonthsOn_11 : decode cX0_dayNumberMonthsOn 11 = .ok (.istore_n 3, 1) := by decide +kernel
theorem dX0_dayNumberMonthsOn_12 : decode cX0_dayNumberMonthsOn 12 = .ok (.iload_n 2, 1) := by decide +kernel
theorem dX0_dayNumberMonthsOn_13 : decode cX0_dayNumberMonthsOn 13 = .ok (.bipush 12, 2) := by decide +kernel
theorem dX0_dayNumberMonthsOn_15 : decode cX0_dayNumberMonthsOn 15 = .ok (.irem, 1) := by decide +kernel
theorem dX0_dayNumberMonthsOn_16 : decode cX0_dayNumberMonthsOn 16 = .ok (.iconst 1, 1) := by decide +kernel
theorem dX0_dayNumberMonthsOn_17 : decode cX0_dayNumberMonthsOn 17 = .ok (.iadd, 1) := by decide +kernel
theorem dX0_dayNumberMonthsOn_18 : decode cX0_dayNumberMonthsOn 18 = .ok (.istore 4, 2) := by decide +kernel
theorem dX0_dayNumberMonthsOn_20 : decode cX0_dayNumberMonthsOn 20 = .ok (.iload_n 3, 1) := by decide +kernel
theorem dX0_dayNumberMonthsOn_21 : decode cX0_dayNumberMonthsOn 21 = .ok (.iload 4, 2) := by decide +kernel
theorem dX0_dayNumberMonthsOn_23 : decode cX0_dayNumberMonthsOn 23 = .ok (.iload_n 3, 1) := by decide +kernel
theorem dX0_dayNumberMonthsOn_24 : decode cX0_dayNumberMonthsOn 24 = .ok (.iload 4, 2) := by decide +kernel
theorem dX0_dayNumberMonthsOn_26 : decode cX0_dayNumberMonthsOn 26 = .ok (.aload_n 0, 1) := by decide +kernel
theorem dX0_dayNumberMonthsOn_27 : decode cX0_dayNumberMonthsOn 27 = .ok (.getfield 18, 3) := by decide +kernel
theorem dX0_dayNumberMonthsOn_30 : decode cX0_dayNumberMonthsOn 30 = .ok (.invokestatic 57, 3) := by decide +kernel
theorem dX0_dayNumberMonthsOn_33 : decode cX0_dayNumberMonthsOn 33 = .ok (.invokestatic 53, 3) := by decide +kernel
theorem dX0_dayNumberMonthsOn_36 : decode cX0_dayNumberMonthsOn 36 = .ok (.ireturn, 1) := by decide +kernel
theorem dX0_number_0 : decode cX0_number 0 = .ok (.iload_n 1, 1) := by decide +kernel
theorem dX0_number_1 : decode cX0_number 1 = .ok (.ifCond .ne 10, 3) := by decide +kernel
theorem dX0_number_4 : decode cX0_number 4 = .ok (.aload_n 0, 1) := by decide +kernel
theorem dX0_number_5 : decode cX0_number 5 = .ok (.getfield 9, 3) := by decide +kernel
theorem dX0_number_8 : decode cX0_number 8 = .ok (.goto 31, 3) := by decide +kernel
theorem dX0_number_11 : decode cX0_number 11 = .ok (.iload_n 1, 1) := by decide +kernel
theorem dX0_number_12 : decode cX0_number 12 = .ok (.iconst 1, 1) := by decide +kernel
theorem dX0_number_13 : decode cX0_number 13 = .ok (.if_icmp .ne 10, 3) := by decide +kernel
theorem dX0_number_16 : decode cX0_number 16 = .ok (.aload_n 0, 1) := by decide +kernel
theorem dX0_number_17 : decode cX0_number 17 = .ok (.getfield 15, 3) := by decide +kernel
theorem dX0_number_20 : decode cX0_number 20 = .ok (.goto 19, 3) := by decide +kernel
theorem dX0_number_23 : decode cX0_number 23 = .ok (.iload_n 1, 1) := by decide +kernel
theorem dX0_number_24 : decode cX0_number 24 = .ok (.iconst 2, 1) := by decide +kernel
theorem dX0_number_25 : decode cX0_number 25 = .ok (.if_icmp .ne 10, 3) := by decide +kernel
theorem dX0_number_28 : decode cX0_number 28 = .ok (.aload_n 0, 1) := by decide +kernel
theorem dX0_number_29 : decode cX0_number 29 = .ok (.getfield 18, 3) := by decide +kernel
theorem dX0_number_32 : decode cX0_number 32 = .ok (.goto 7, 3) := by decide +kernel
theorem dX0_number_35 : decode cX0_number 35 = .ok (.aload_n 0, 1) := by decide +kernel
theorem dX0_number_36 : decode cX0_number 36 = .ok (.invokevirtual 60, 3) := by decide +kernel
theorem dX0_number_39 : decode cX0_number 39 = .ok (.ireturn, 1) := by decide +kernel
theorem dX0_orderTo_0 : decode cX0_orderTo 0 = .ok (.aload_n 0, 1) := by decide +kernel
theorem dX0_orderTo_1 : decode cX0_orderTo 1 = .ok (.invokevirtual 60, 3) := by decide +kernel
theorem dX0_orderTo_4 : decode cX0_orderTo 4 = .ok (.istore_n 2, 1) := by decide +kernel
theorem dX0_orderTo_5 : decode cX0_orderTo 5 = .ok (.aload_n 1, 1) := by decide +kernel
theorem dX0_orderTo_6 : decode cX0_orderTo 6 = .ok (.invokevirtual 60, 3) := by decide +kernel
theorem dX0_orderTo_9 : decode cX0_orderTo 9 = .ok (.istore_n 3, 1) := by decide +kernel
theorem dX0_orderTo_10 : decode cX0_orderTo 10 = .ok (.iload_n 2, 1) := by decide +kernel
theorem dX0_orderTo_11 : decode cX0_orderTo 11 = .ok (.iload_n 3, 1) := by decide +kernel
theorem dX0_orderTo_12 : decode cX0_orderTo 12 = .ok (.if_icmp .ge 7, 3) := by decide +kernel
theorem dX0_orderTo_15 : decode cX0_orderTo 15 = .ok (.iconst (-1), 1) := by decide +kernel
theorem dX0_orderTo_16 : decode cX0_orderTo 16 = .ok (.goto 13, 3) := by decide +kernel
theorem dX0_orderTo_19 : decode cX0_orderTo 19 = .ok (.iload_n 2, 1) := by decide +kernel
theorem dX0_orderTo_20 : decode cX0_orderTo 20 = .ok (.iload_n 3, 1) := by decide +kernel
theorem dX0_orderTo_21 : decode cX0_orderTo 21 = .ok (.if_icmp .le 7, 3) := by decide +kernel
theorem dX0_orderTo_24 : decode cX0_orderTo 24 = .ok (.iconst 1, 1) := by decide +kernel
theorem dX0_orderTo_25 : decode cX0_orderTo 25 = .ok (.goto 4, 3) := by decide +kernel
theorem dX0_orderTo_28 : decode cX0_orderTo 28 = .ok (.iconst 0, 1) := by decide +kernel
theorem dX0_orderTo_29 : decode cX0_orderTo 29 = .ok (.ireturn, 1) := by decide +kernel
theorem dX0_inSigns_0 : decode cX0_inSigns 0 = .ok (.new 63, 3) := by decide +kernel
theorem dX0_inSigns_3 : decode cX0_inSigns 3 = .ok (.dup, 1) := by decide +kernel
theorem dX0_inSigns_4 : decode cX0_inSigns 4 = .ok (.invokespecial 65, 3) := by decide +kernel
theorem dX0_inSigns_7 : decode cX0_inSigns 7 = .ok (.astore_n 1, 1) := by decide +kernel
theorem dX0_inSigns_8 : decode cX0_inSigns 8 = .ok (.aload_n 1, 1) := by decide +kernel
theorem dX0_inSigns_9 : decode cX0_inSigns 9 = .ok (.aload_n 0, 1) := by decide +kernel
theorem dX0_inSigns_10 : decode cX0_inSigns 10 = .ok (.getfield 9, 3) := by decide +kernel
theorem dX0_inSigns_13 : decode cX0_inSigns 13 = .ok (.invokevirtual 66, 3) := by decide +kernel
theorem dX0_inSigns_16 : decode cX0_inSigns 16 = .ok (.pop, 1) := by decide +kernel
theorem dX0_inSigns_17 : decode cX0_inSigns 17 = .ok (.aload_n 1, 1) := by decide +kernel
theorem dX0_inSigns_18 : decode cX0_inSigns 18 = .ok (.bipush 45, 2) := by decide +kernel
theorem dX0_inSigns_20 : decode cX0_inSigns 20 = .ok (.invokevirtual 70, 3) := by decide +kernel
theorem dX0_inSigns_23 : decode cX0_inSigns 23 = .ok (.pop, 1) := by decide +kernel
theorem dX0_inSigns_24 : decode cX0_inSigns 24 = .ok (.aload_n 1, 1) := by decide +kernel
theorem dX0_inSigns_25 : decode cX0_inSigns 25 = .ok (.aload_n 0, 1) := by decide +kernel
theorem dX0_inSigns_26 : decode cX0_inSigns 26 = .ok (.getfield 15, 3) := by decide +kernel
theorem dX0_inSigns_29 : decode cX0_inSigns 29 = .ok (.invokevirtual 66, 3) := by decide +kernel
theorem dX0_inSigns_32 : decode cX0_inSigns 32 = .ok (.pop, 1) := by decide +kernel
theorem dX0_inSigns_33 : decode cX0_inSigns 33 = .ok (.aload_n 1, 1) := by decide +kernel
theorem dX0_inSigns_34 : decode cX0_inSigns 34 = .ok (.bipush 45, 2) := by decide +kernel
theorem dX0_inSigns_36 : decode cX0_inSigns 36 = .ok (.invokevirtual 70, 3) := by decide +kernel
theorem dX0_inSigns_39 : decode cX0_inSigns 39 = .ok (.pop, 1) := by decide +kernel
theorem dX0_inSigns_40 : decode cX0_inSigns 40 = .ok (.aload_n 1, 1) := by decide +kernel
theorem dX0_inSigns_41 : decode cX0_inSigns 41 = .ok (.aload_n 0, 1) := by decide +kernel
theorem dX0_inSigns_42 : decode cX0_inSigns 42 = .ok (.getfield 18, 3) := by decide +kernel
theorem dX0_inSigns_45 : decode cX0_inSigns 45 = .ok (.invokevirtual 66, 3) := by decide +kernel
theorem dX0_inSigns_48 : decode cX0_inSigns 48 = .ok (.pop, 1) := by decide +kernel
theorem dX0_inSigns_49 : decode cX0_inSigns 49 = .ok (.aload_n 1, 1) := by decide +kernel
theorem dX0_inSigns_50 : decode cX0_inSigns 50 = .ok (.invokevirtual 73, 3) := by decide +kernel
theorem dX0_inSigns_53 : decode cX0_inSigns 53 = .ok (.areturn, 1) := by decide +kernel
theorem dX0_signs_0 : decode cX0_signs 0 = .ok (.aload_n 0, 1) := by decide +kernel
theorem dX0_signs_1 : decode cX0_signs 1 = .ok (.getfield 9, 3) := by decide +kernel
theorem dX0_signs_4 : decode cX0_signs 4 = .ok (.invokestatic 77, 3) := by decide +kernel
theorem dX0_signs_7 : decode cX0_signs 7 = .ok (.aload_n 0, 1) := by decide +kernel
theorem dX0_signs_8 : decode cX0_signs 8 = .ok (.getfield 15, 3) := by decide +kernel
theorem dX0_signs_11 : decode cX0_signs 11 = .ok (.invokestatic 77, 3) := by decide +kernel
theorem dX0_signs_14 : decode cX0_signs 14 = .ok (.iadd, 1) := by decide +kernel
theorem dX0_signs_15 : decode cX0_signs 15 = .ok (.aload_n 0, 1) := by decide +kernel
theorem dX0_signs_16 : decode cX0_signs 16 = .ok (.getfield 18, 3) := by decide +kernel
theorem dX0_signs_19 : decode cX0_signs 19 = .ok (.invokestatic 77, 3) := by decide +kernel
theorem dX0_signs_22 : decode cX0_signs 22 = .ok (.iadd, 1) := by decide +kernel
theorem dX0_signs_23 : decode cX0_signs 23 = .ok (.iconst 2, 1) := by decide +kernel
theorem dX0_signs_24 : decode cX0_signs 24 = .ok (.iadd, 1) := by decide +kernel
theorem dX0_signs_25 : decode cX0_signs 25 = .ok (.ireturn, 1) := by decide +kernel
theorem dX1_init_0 : decode cX1_init 0 = .ok (.aload_n 0, 1) := by decide +kernel
theorem dX1_init_1 : decode cX1_init 1 = .ok (.invokespecial 3, 3) := by decide +kernel
theorem dX1_init_4 : decode cX1_init 4 = .ok (.return_, 1) := by decide +kernel
theorem dX1_put_0 : decode cX1_put 0 = .ok (.lload_n 1, 1) := by decide +kernel
theorem dX1_put_1 : decode cX1_put 1 = .ok (.invokestatic 9, 3) := by decide +kernel
theorem dX1_put_4 : decode cX1_put 4 = .ok (.ifCond .eq 18, 3) := by decide +kernel
theorem dX1_put_7 : decode cX1_put 7 = .ok (.lload_n 3, 1) := by decide +kernel
theorem dX1_put_8 : decode cX1_put 8 = .ok (.invokestatic 9, 3) := by decide +kernel
theorem dX1_put_11 : decode cX1_put 11 = .ok (.ifCond .eq 11, 3) := by decide +kernel
theorem dX1_put_14 : decode cX1_put 14 = .ok (.lload 5, 2) := by decide +kernel
theorem dX1_put_16 : decode cX1_put 16 = .ok (.invokestatic 9, 3) := by decide +kernel
theorem dX1_put_19 : decode cX1_put 19 = .ok (.ifCond .ne 5, 3) := by decide +kernel
theorem dX1_put_22 : decode cX1_put 22 = .ok (.iconst 0, 1) := by decide +kernel
theorem dX1_put_23 : decode cX1_put 23 = .ok (.ireturn, 1) := by decide +kernel
theorem dX1_put_24 : decode cX1_put 24 = .ok (.aload_n 0, 1) := by decide +kernel
theorem dX1_put_25 : decode cX1_put 25 = .ok (.lload_n 1, 1) := by decide +kernel
theorem dX1_put_26 : decode cX1_put 26 = .ok (.l2i, 1) := by decide +kernel
theorem dX1_put_27 : decode cX1_put 27 = .ok (.putfield 13, 3) := by decide +kernel
theorem dX1_put_30 : decode cX1_put 30 = .ok (.aload_n 0, 1) := by decide +kernel
theorem dX1_put_31 : decode cX1_put 31 = .ok (.lload_n 3, 1) := by decide +kernel
theorem dX1_put_32 : decode cX1_put 32 = .ok (.l2i, 1) := by decide +kernel
theorem dX1_put_33 : decode cX1_put 33 = .ok (.putfield 19, 3) := by decide +kernel
theorem dX1_put_36 : decode cX1_put 36 = .ok (.aload_n 0, 1) := by decide +kernel
theorem dX1_put_37 : decode cX1_put 37 = .ok (.lload 5, 2) := by decide +kernel
theorem dX1_put_39 : decode cX1_put 39 = .ok (.l2i, 1) := by decide +kernel
theorem dX1_put_40 : decode cX1_put 40 = .ok (.putfield 22, 3) := by decide +kernel
theorem dX1_put_43 : decode cX1_put 43 = .ok (.iconst 1, 1) := by decide +kernel
theorem dX1_put_44 : decode cX1_put 44 = .ok (.ireturn, 1) := by decide +kernel
theorem dX1_putSpan_0 : decode cX1_putSpan 0 = .ok (.aload_n 0, 1) := by decide +kernel
theorem dX1_putSpan_1 : decode cX1_putSpan 1 = .ok (.aload_n 1, 1) := by decide +kernel
theorem dX1_putSpan_2 : decode cX1_putSpan 2 = .ok (.getfield 13, 3) := by decide +kernel
theorem dX1_putSpan_5 : decode cX1_putSpan 5 = .ok (.putfield 13, 3) := by decide +kernel
theorem dX1_putSpan_8 : decode cX1_putSpan 8 = .ok (.aload_n 0, 1) := by decide +kernel
theorem dX1_putSpan_9 : decode cX1_putSpan 9 = .ok (.aload_n 1, 1) := by decide +kernel
theorem dX1_putSpan_10 : decode cX1_putSpan 10 = .ok (.getfield 19, 3) := by decide +kernel
theorem dX1_putSpan_13 : decode cX1_putSpan 13 = .ok (.putfield 19, 3) := by decide +kernel
theorem dX1_putSpan_16 : decode cX1_putSpan 16 = .ok (.aload_n 0, 1) := by decide +kernel
theorem dX1_putSpan_17 : decode cX1_putSpan 17 = .ok (.aload_n 1, 1) := by decide +kernel
theorem dX1_putSpan_18 : decode cX1_putSpan 18 = .ok (.getfield 22, 3) := by decide +kernel
theorem dX1_putSpan_21 : decode cX1_putSpan 21 = .ok (.putfield 22, 3) := by decide +kernel
theorem dX1_putSpan_24 : decode cX1_putSpan 24 = .ok (.return_, 1) := by decide +kernel
theorem dX1_putSum_0 : decode cX1_putSum 0 = .ok (.aload_n 0, 1) := by decide +kernel
theorem dX1_putSum_1 : decode cX1_putSum 1 = .ok (.aload_n 1, 1) := by decide +kernel
theorem dX1_putSum_2 : decode cX1_putSum 2 = .ok (.getfield 13, 3) := by decide +kernel
theorem dX1_putSum_5 : decode cX1_putSum 5 = .ok (.i2l, 1) := by decide +kernel
theorem dX1_putSum_6 : decode cX1_putSum 6 = .ok (.aload_n 2, 1) := by decide +kernel
theorem dX1_putSum_7 : decode cX1_putSum 7 = .ok (.getfield 13, 3) := by decide +kernel
theorem dX1_putSum_10 : decode cX1_putSum 10 = .ok (.i2l, 1) := by decide +kernel
theorem dX1_putSum_11 : decode cX1_putSum 11 = .ok (.ladd, 1) := by decide +kernel
theorem dX1_putSum_12 : decode cX1_putSum 12 = .ok (.aload_n 1, 1) := by decide +kernel
theorem dX1_putSum_13 : decode cX1_putSum 13 = .ok (.getfield 19, 3) := by decide +kernel
theorem dX1_putSum_16 : decode cX1_putSum 16 = .ok (.i2l, 1) := by decide +kernel
theorem dX1_putSum_17 : decode cX1_putSum 17 = .ok (.aload_n 2, 1) := by decide +kernel
theorem dX1_putSum_18 : decode cX1_putSum 18 = .ok (.getfield 19, 3) := by decide +kernel
theorem dX1_putSum_21 : decode cX1_putSum 21 = .ok (.i2l, 1) := by decide +kernel
theorem dX1_putSum_22 : decode cX1_putSum 22 = .ok (.ladd, 1) := by decide +kernel
theorem dX1_putSum_23 : decode cX1_putSum 23 = .ok (.aload_n 1, 1) := by decide +kernel
theorem dX1_putSum_24 : decode cX1_putSum 24 = .ok (.getfield 22, 3) := by decide +kernel
theorem dX1_putSum_27 : decode cX1_putSum 27 = .ok (.i2l, 1) := by decide +kernel
theorem dX1_putSum_28 : decode cX1_putSum 28 = .ok (.aload_n 2, 1) := by decide +kernel
theorem dX1_putSum_29 : decode cX1_putSum 29 = .ok (.getfield 22, 3) := by decide +kernel
theorem dX1_putSum_32 : decode cX1_putSum 32 = .ok (.i2l, 1) := by decide +kernel
theorem dX1_putSum_33 : decode cX1_putSum 33 = .ok (.ladd, 1) := by decide +kernel
theorem dX1_putSum_34 : decode cX1_putSum 34 = .ok (.invokevirtual 25, 3) := by decide +kernel
theorem dX1_putSum_37 : decode cX1_putSum 37 = .ok (.ireturn, 1) := by decide +kernel
theorem dX1_putDifference_0 : decode cX1_putDifference 0 = .ok (.aload_n 0, 1) := by decide +kernel
theorem dX1_putDifference_1 : decode cX1_putDifference 1 = .ok (.aload_n 1, 1) := by decide +kernel
theorem dX1_putDifference_2 : decode cX1_putDifference 2 = .ok (.getfield 13, 3) := by decide +kernel
theorem dX1_putDifference_5 : decode cX1_putDifference 5 = .ok (.i2l, 1) := by decide +kernel
theorem dX1_putDifference_6 : decode cX1_putDifference 6 = .ok (.aload_n 2, 1) := by decide +kernel
theorem dX1_putDifference_7 : decode cX1_putDifference 7 = .ok (.getfield 13, 3) := by decide +kernel
theorem dX1_putDifference_10 : decode cX1_putDifference 10 = .ok (.i2l, 1) := by decide +kernel
theorem dX1_putDifference_11 : decode cX1_putDifference 11 = .ok (.lsub, 1) := by decide +kernel
theorem dX1_putDifference_12 : decode cX1_putDifference 12 = .ok (.aload_n 1, 1) := by decide +kernel
theorem dX1_putDifference_13 : decode cX1_putDifference 13 = .ok (.getfield 19, 3) := by decide +kernel
theorem dX1_putDifference_16 : decode cX1_putDifference 16 = .ok (.i2l, 1) := by decide +kernel
theorem dX1_putDifference_17 : decode cX1_putDifference 17 = .ok (.aload_n 2, 1) := by decide +kernel
theorem dX1_putDifference_18 : decode cX1_putDifference 18 = .ok (.getfield 19, 3) := by decide +kernel
theorem dX1_putDifference_21 : decode cX1_putDifference 21 = .ok (.i2l, 1) := by decide +kernel
theorem dX1_putDifference_22 : decode cX1_putDifference 22 = .ok (.lsub, 1) := by decide +kernel
theorem dX1_putDifference_23 : decode cX1_putDifference 23 = .ok (.aload_n 1, 1) := by decide +kernel
theorem dX1_putDifference_24 : decode cX1_putDifference 24 = .ok (.getfield 22, 3) := by decide +kernel
theorem dX1_putDifference_27 : decode cX1_putDifference 27 = .ok (.i2l, 1) := by decide +kernel
theorem dX1_putDifference_28 : decode cX1_putDifference 28 = .ok (.aload_n 2, 1) := by decide +kernel
theorem dX1_putDifference_29 : decode cX1_putDifference 29 = .ok (.getfield 22, 3) := by decide +kernel
theorem dX1_putDifference_32 : decode cX1_putDifference 32 = .ok (.i2l, 1) := by decide +kernel
theorem dX1_putDifference_33 : decode cX1_putDifference 33 = .ok (.lsub, 1) := by decide +kernel
theorem dX1_putDifference_34 : decode cX1_putDifference 34 = .ok (.invokevirtual 25, 3) := by decide +kernel
theorem dX1_putDifference_37 : decode cX1_putDifference 37 = .ok (.ireturn, 1) := by decide +kernel
theorem dX1_putTimes_0 : decode cX1_putTimes 0 = .ok (.aload_n 0, 1) := by decide +kernel
theorem dX1_putTimes_1 : decode cX1_putTimes 1 = .ok (.lload_n 2, 1) := by decide +kernel
theorem dX1_putTimes_2 : decode cX1_putTimes 2 = .ok (.aload_n 1, 1) := by decide +kernel
theorem dX1_putTimes_3 : decode cX1_putTimes 3 = .ok (.getfield 13, 3) := by decide +kernel
theorem dX1_putTimes_6 : decode cX1_putTimes 6 = .ok (.i2l, 1) := by decide +kernel
theorem dX1_putTimes_7 : decode cX1_putTimes 7 = .ok (.lmul, 1) := by decide +kernel
theorem dX1_putTimes_8 : decode cX1_putTimes 8 = .ok (.lload_n 2, 1) := by decide +kernel
theorem dX1_putTimes_9 : decode cX1_putTimes 9 = .ok (.aload_n 1, 1) := by decide +kernel
theorem dX1_putTimes_10 : decode cX1_putTimes 10 = .ok (.getfield 19, 3) := by decide +kernel
theorem dX1_putTimes_13 : decode cX1_putTimes 13 = .ok (.i2l, 1) := by decide +kernel
theorem dX1_putTimes_14 : decode cX1_putTimes 14 = .ok (.lmul, 1) := by decide +kernel
theorem dX1_putTimes_15 : decode cX1_putTimes 15 = .ok (.lload_n 2, 1) := by decide +kernel
theorem dX1_putTimes_16 : decode cX1_putTimes 16 = .ok (.aload_n 1, 1) := by decide +kernel
theorem dX1_putTimes_17 : decode cX1_putTimes 17 = .ok (.getfield 22, 3) := by decide +kernel
theorem dX1_putTimes_20 : decode cX1_putTimes 20 = .ok (.i2l, 1) := by decide +kernel
theorem dX1_putTimes_21 : decode cX1_putTimes 21 = .ok (.lmul, 1) := by decide +kernel
theorem dX1_putTimes_22 : decode cX1_putTimes 22 = .ok (.invokevirtual 25, 3) := by decide +kernel
theorem dX1_putTimes_25 : decode cX1_putTimes 25 = .ok (.ireturn, 1) := by decide +kernel
theorem dX1_putOpposite_0 : decode cX1_putOpposite 0 = .ok (.aload_n 0, 1) := by decide +kernel
theorem dX1_putOpposite_1 : decode cX1_putOpposite 1 = .ok (.aload_n 1, 1) := by decide +kernel
theorem dX1_putOpposite_2 : decode cX1_putOpposite 2 = .ok (.ldc2_w 29, 3) := by decide +kernel
theorem dX1_putOpposite_5 : decode cX1_putOpposite 5 = .ok (.invokevirtual 31, 3) := by decide +kernel
theorem dX1_putOpposite_8 : decode cX1_putOpposite 8 = .ok (.ireturn, 1) := by decide +kernel
theorem dX1_putTidy_0 : decode cX1_putTidy 0 = .ok (.aload_n 1, 1) := by decide +kernel
theorem dX1_putTidy_1 : decode cX1_putTidy 1 = .ok (.invokevirtual 35, 3) := by decide +kernel
theorem dX1_putTidy_4 : decode cX1_putTidy 4 = .ok (.lstore_n 2, 1) := by decide +kernel
theorem dX1_putTidy_5 : decode cX1_putTidy 5 = .ok (.aload_n 0, 1) := by decide +kernel
theorem dX1_putTidy_6 : decode cX1_putTidy 6 = .ok (.lload_n 2, 1) := by decide +kernel
theorem dX1_putTidy_7 : decode cX1_putTidy 7 = .ok (.ldc2_w 39, 3) := by decide +kernel
theorem dX1_putTidy_10 : decode cX1_putTidy 10 = .ok (.ldiv, 1) := by decide +kernel
theorem dX1_putTidy_11 : decode cX1_putTidy 11 = .ok (.lload_n 2, 1) := by decide +kernel
theorem dX1_putTidy_12 : decode cX1_putTidy 12 = .ok (.ldc2_w 39, 3) := by decide +kernel
theorem dX1_putTidy_15 : decode cX1_putTidy 15 = .ok (.lrem, 1) := by decide +kernel
theorem dX1_putTidy_16 : decode cX1_putTidy 16 = .ok (.aload_n 1, 1) := by decide +kernel
theorem dX1_putTidy_17 : decode cX1_putTidy 17 = .ok (.getfield 22, 3) := by decide +kernel
theorem dX1_putTidy_20 : decode cX1_putTidy 20 = .ok (.i2l, 1) := by decide +kernel
theorem dX1_putTidy_21 : decode cX1_putTidy 21 = .ok (.invokevirtual 25, 3) := by decide +kernel
theorem dX1_putTidy_24 : decode cX1_putTidy 24 = .ok (.ireturn, 1) := by decide +kernel
theorem dX1_putBetween_0 : decode cX1_putBetween 0 = .ok (.aload_n 2, 1) := by decide +kernel
theorem dX1_putBetween_1 : decode cX1_putBetween 1 = .ok (.invokevirtual 41, 3) := by decide +kernel
theorem dX1_putBetween_4 : decode cX1_putBetween 4 = .ok (.aload_n 1, 1) := by decide +kernel
theorem dX1_putBetween_5 : decode cX1_putBetween 5 = .ok (.invokevirtual 41, 3) := by decide +kernel
theorem dX1_putBetween_8 : decode cX1_putBetween 8 = .ok (.isub, 1) := by decide +kernel
theorem dX1_putBetween_9 : decode cX1_putBetween 9 = .ok (.istore_n 3, 1) := by decide +kernel
theorem dX1_putBetween_10 : decode cX1_putBetween 10 = .ok (.aload_n 2, 1) := by decide +kernel
theorem dX1_putBetween_11 : decode cX1_putBetween 11 = .ok (.aload_n 1, 1) := by decide +kernel
theorem dX1_putBetween_12 : decode cX1_putBetween 12 = .ok (.invokevirtual 47, 3) := by decide +kernel
theorem dX1_putBetween_15 : decode cX1_putBetween 15 = .ok (.ifCond .lt 25, 3) := by decide +kernel
theorem dX1_putBetween_18 : decode cX1_putBetween 18 = .ok (.iload_n 3, 1) := by decide +kernel
theorem dX1_putBetween_19 : decode cX1_putBetween 19 = .ok (.aload_n 2, 1) := by decide +kernel
theorem dX1_putBetween_20 : decode cX1_putBetween 20 = .ok (.getfield 51, 3) := by decide +kernel
theorem dX1_putBetween_23 : decode cX1_putBetween 23 = .ok (.aload_n 1, 1) := by decide +kernel
theorem dX1_putBetween_24 : decode cX1_putBetween 24 = .ok (.getfield 51, 3) := by decide +kernel
theorem dX1_putBetween_27 : decode cX1_putBetween 27 = .ok (.if_icmp .ge 7, 3) := by decide +kernel
theorem dX1_putBetween_30 : decode cX1_putBetween 30 = .ok (.iconst 1, 1) := by decide +kernel
theorem dX1_putBetween_31 : decode cX1_putBetween 31 = .ok (.goto 4, 3) := by decide +kernel
theorem dX1_putBetween_34 : decode cX1_putBetween 34 = .ok (.iconst 0, 1) := by decide +kernel
theorem dX1_putBetween_35 : decode cX1_putBetween 35 = .ok (.isub, 1) := by decide +kernel
theorem dX1_putBetween_36 : decode cX1_putBetween 36 = .ok (.istore_n 3, 1) := by decide +kernel
theorem dX1_putBetween_37 : decode cX1_putBetween 37 = .ok (.goto 37, 3) := by decide +kernel
theorem dX1_putBetween_40 : decode cX1_putBetween 40 = .ok (.aload_n 1, 1) := by decide +kernel
theorem dX1_putBetween_41 : decode cX1_putBetween 41 = .ok (.getfield 51, 3) := by decide +kernel
theorem dX1_putBetween_44 : decode cX1_putBetween 44 = .ok (.bipush 28, 2) := by decide +kernel
theorem dX1_putBetween_46 : decode cX1_putBetween 46 = .ok (.if_icmp .le 5, 3) := by decide +kernel
theorem dX1_putBetween_49 : decode cX1_putBetween 49 = .ok (.iconst 0, 1) := by decide +kernel
theorem dX1_putBetween_50 : decode cX1_putBetween 50 = .ok (.ireturn, 1) := by decide +kernel
theorem dX1_putBetween_51 : decode cX1_putBetween 51 = .ok (.iload_n 3, 1) := by decide +kernel
theorem dX1_putBetween_52 : decode cX1_putBetween 52 = .ok (.aload_n 2, 1) := by decide +kernel
theorem dX1_putBetween_53 : decode cX1_putBetween 53 = .ok (.getfield 51, 3) := by decide +kernel
theorem dX1_putBetween_56 : decode cX1_putBetween 56 = .ok (.aload_n 1, 1) := by decide +kernel
theorem dX1_putBetween_57 : decode cX1_putBetween 57 = .ok (.getfield 51, 3) := by decide +kernel
theorem dX1_putBetween_60 : decode cX1_putBetween 60 = .ok (.if_icmp .le 11, 3) := by decide +kernel
theorem dX1_putBetween_63 : decode cX1_putBetween 63 = .ok (.iload_n 3, 1) := by decide +kernel
theorem dX1_putBetween_64 : decode cX1_putBetween 64 = .ok (.ifCond .ge 7, 3) := by decide +kernel
theorem dX1_putBetween_67 : decode cX1_putBetween 67 = .ok (.iconst 1, 1) := by decide +kernel
theorem dX1_putBetween_68 : decode cX1_putBetween 68 = .ok (.goto 4, 3) := by decide +kernel
theorem dX1_putBetween_71 : decode cX1_putBetween 71 = .ok (.iconst 0, 1) := by decide +kernel
theorem dX1_putBetween_72 : decode cX1_putBetween 72 = .ok (.iadd, 1) := by decide +kernel
theorem dX1_putBetween_73 : decode cX1_putBetween 73 = .ok (.istore_n 3, 1) := by decide +kernel
theorem dX1_putBetween_74 : decode cX1_putBetween 74 = .ok (.aload_n 2, 1) := by decide +kernel
theorem dX1_putBetween_75 : decode cX1_putBetween 75 = .ok (.invokevirtual 54, 3) := by decide +kernel
theorem dX1_putBetween_78 : decode cX1_putBetween 78 = .ok (.aload_n 1, 1) := by decide +kernel
theorem dX1_putBetween_79 : decode cX1_putBetween 79 = .ok (.iload_n 3, 1) := by decide +kernel
theorem dX1_putBetween_80 : decode cX1_putBetween 80 = .ok (.invokevirtual 57, 3) := by decide +kernel
theorem dX1_putBetween_83 : decode cX1_putBetween 83 = .ok (.isub, 1) := by decide +kernel
theorem dX1_putBetween_84 : decode cX1_putBetween 84 = .ok (.istore 4, 2) := by decide +kernel
theorem dX1_putBetween_86 : decode cX1_putBetween 86 = .ok (.aload_n 0, 1) := by decide +kernel
theorem dX1_putBetween_87 : decode cX1_putBetween 87 = .ok (.iload_n 3, 1) := by decide +kernel
theorem dX1_putBetween_88 : decode cX1_putBetween 88 = .ok (.bipush 12, 2) := by decide +kernel
theorem dX1_putBetween_90 : decode cX1_putBetween 90 = .ok (.idiv, 1) := by decide +kernel
theorem dX1_putBetween_91 : decode cX1_putBetween 91 = .ok (.i2l, 1) := by decide +kernel
theorem dX1_putBetween_92 : decode cX1_putBetween 92 = .ok (.iload_n 3, 1) := by decide +kernel
theorem dX1_putBetween_93 : decode cX1_putBetween 93 = .ok (.bipush 12, 2) := by decide +kernel
theorem dX1_putBetween_95 : decode cX1_putBetween 95 = .ok (.irem, 1) := by decide +kernel
theorem dX1_putBetween_96 : decode cX1_putBetween 96 = .ok (.i2l, 1) := by decide +kernel
theorem dX1_putBetween_97 : decode cX1_putBetween 97 = .ok (.iload 4, 2) := by decide +kernel
theorem dX1_putBetween_99 : decode cX1_putBetween 99 = .ok (.i2l, 1) := by decide +kernel
theorem dX1_putBetween_100 : decode cX1_putBetween 100 = .ok (.invokevirtual 25, 3) := by decide +kernel
theorem dX1_putBetween_103 : decode cX1_putBetween 103 = .ok (.ireturn, 1) := by decide +kernel
theorem dX1_number_0 : decode cX1_number 0 = .ok (.iload_n 1, 1) := by decide +kernel
theorem dX1_number_1 : decode cX1_number 1 = .ok (.ifCond .ne 10, 3) := by decide +kernel
theorem dX1_number_4 : decode cX1_number 4 = .ok (.aload_n 0, 1) := by decide +kernel
theorem dX1_number_5 : decode cX1_number 5 = .ok (.getfield 13, 3) := by decide +kernel
theorem dX1_number_8 : decode cX1_number 8 = .ok (.goto 19, 3) := by decide +kernel
theorem dX1_number_11 : decode cX1_number 11 = .ok (.iload_n 1, 1) := by decide +kernel
theorem dX1_number_12 : decode cX1_number 12 = .ok (.iconst 1, 1) := by decide +kernel
theorem dX1_number_13 : decode cX1_number 13 = .ok (.if_icmp .ne 10, 3) := by decide +kernel
theorem dX1_number_16 : decode cX1_number 16 = .ok (.aload_n 0, 1) := by decide +kernel
theorem dX1_number_17 : decode cX1_number 17 = .ok (.getfield 19, 3) := by decide +kernel
theorem dX1_number_20 : decode cX1_number 20 = .ok (.goto 7, 3) := by decide +kernel
theorem dX1_number_23 : decode cX1_number 23 = .ok (.aload_n 0, 1) := by decide +kernel
theorem dX1_number_24 : decode cX1_number 24 = .ok (.getfield 22, 3) := by decide +kernel
theorem dX1_number_27 : decode cX1_number 27 = .ok (.ireturn, 1) := by decide +kernel
theorem dX1_allMonths_0 : decode cX1_allMonths 0 = .ok (.aload_n 0, 1) := by decide +kernel
theorem dX1_allMonths_1 : decode cX1_allMonths 1 = .ok (.getfield 13, 3) := by decide +kernel
theorem dX1_allMonths_4 : decode cX1_allMonths 4 = .ok (.i2l, 1) := by decide +kernel
theorem dX1_allMonths_5 : decode cX1_allMonths 5 = .ok (.ldc2_w 39, 3) := by decide +kernel
theorem dX1_allMonths_8 : decode cX1_allMonths 8 = .ok (.lmul, 1) := by decide +kernel
theorem dX1_allMonths_9 : decode cX1_allMonths 9 = .ok (.aload_n 0, 1) := by decide +kernel
theorem dX1_allMonths_10 : decode cX1_allMonths 10 = .ok (.getfield 19, 3) := by decide +kernel
theorem dX1_allMonths_13 : decode cX1_allMonths 13 = .ok (.i2l, 1) := by decide +kernel
theorem dX1_allMonths_14 : decode cX1_allMonths 14 = .ok (.ladd, 1) := by decide +kernel
theorem dX1_allMonths_15 : decode cX1_allMonths 15 = .ok (.lreturn, 1) := by decide +kernel
theorem dX1_isNothing_0 : decode cX1_isNothing 0 = .ok (.aload_n 0, 1) := by decide +kernel
theorem dX1_isNothing_1 : decode cX1_isNothing 1 = .ok (.getfield 13, 3) := by decide +kernel
theorem dX1_isNothing_4 : decode cX1_isNothing 4 = .ok (.ifCond .ne 21, 3) := by decide +kernel
theorem dX1_isNothing_7 : decode cX1_isNothing 7 = .ok (.aload_n 0, 1) := by decide +kernel
theorem dX1_isNothing_8 : decode cX1_isNothing 8 = .ok (.getfield 19, 3) := by decide +kernel
theorem dX1_isNothing_11 : decode cX1_isNothing 11 = .ok (.ifCond .ne 14, 3) := by decide +kernel
theorem dX1_isNothing_14 : decode cX1_isNothing 14 = .ok (.aload_n 0, 1) := by decide +kernel
theorem dX1_isNothing_15 : decode cX1_isNothing 15 = .ok (.getfield 22, 3) := by decide +kernel
theorem dX1_isNothing_18 : decode cX1_isNothing 18 = .ok (.ifCond .ne 7, 3) := by decide +kernel
theorem dX1_isNothing_21 : decode cX1_isNothing 21 = .ok (.iconst 1, 1) := by decide +kernel
theorem dX1_isNothing_22 : decode cX1_isNothing 22 = .ok (.goto 4, 3) := by decide +kernel
theorem dX1_isNothing_25 : decode cX1_isNothing 25 = .ok (.iconst 0, 1) := by decide +kernel
theorem dX1_isNothing_26 : decode cX1_isNothing 26 = .ok (.ireturn, 1) := by decide +kernel
theorem dX1_isBelowZero_0 : decode cX1_isBelowZero 0 = .ok (.aload_n 0, 1) := by decide +kernel
theorem dX1_isBelowZero_1 : decode cX1_isBelowZero 1 = .ok (.getfield 13, 3) := by decide +kernel
theorem dX1_isBelowZero_4 : decode cX1_isBelowZero 4 = .ok (.ifCond .lt 17, 3) := by decide +kernel
theorem dX1_isBelowZero_7 : decode cX1_isBelowZero 7 = .ok (.aload_n 0, 1) := by decide +kernel
theorem dX1_isBelowZero_8 : decode cX1_isBelowZero 8 = .ok (.getfield 19, 3) := by decide +kernel
theorem dX1_isBelowZero_11 : decode cX1_isBelowZero 11 = .ok (.ifCond .lt 10, 3) := by decide +kernel
theorem dX1_isBelowZero_14 : decode cX1_isBelowZero 14 = .ok (.aload_n 0, 1) := by decide +kernel
theorem dX1_isBelowZero_15 : decode cX1_isBelowZero 15 = .ok (.getfield 22, 3) := by decide +kernel
theorem dX1_isBelowZero_18 : decode cX1_isBelowZero 18 = .ok (.ifCond .ge 7, 3) := by decide +kernel
theorem dX1_isBelowZero_21 : decode cX1_isBelowZero 21 = .ok (.iconst 1, 1) := by decide +kernel
theorem dX1_isBelowZero_22 : decode cX1_isBelowZero 22 = .ok (.goto 4, 3) := by decide +kernel
theorem dX1_isBelowZero_25 : decode cX1_isBelowZero 25 = .ok (.iconst 0, 1) := by decide +kernel
theorem dX1_isBelowZero_26 : decode cX1_isBelowZero 26 = .ok (.ireturn, 1) := by decide +kernel
theorem dX1_isSameAs_0 : decode cX1_isSameAs 0 = .ok (.aload_n 0, 1) := by decide +kernel
theorem dX1_isSameAs_1 : decode cX1_isSameAs 1 = .ok (.getfield 13, 3) := by decide +kernel
theorem dX1_isSameAs_4 : decode cX1_isSameAs 4 = .ok (.aload_n 1, 1) := by decide +kernel
theorem dX1_isSameAs_5 : decode cX1_isSameAs 5 = .ok (.getfield 13, 3) := by decide +kernel
theorem dX1_isSameAs_8 : decode cX1_isSameAs 8 = .ok (.if_icmp .ne 29, 3) := by decide +kernel
theorem dX1_isSameAs_11 : decode cX1_isSameAs 11 = .ok (.aload_n 0, 1) := by decide +kernel
theorem dX1_isSameAs_12 : decode cX1_isSameAs 12 = .ok (.getfield 19, 3) := by decide +kernel
theorem dX1_isSameAs_15 : decode cX1_isSameAs 15 = .ok (.aload_n 1, 1) := by decide +kernel
theorem dX1_isSameAs_16 : decode cX1_isSameAs 16 = .ok (.getfield 19, 3) := by decide +kernel
theorem dX1_isSameAs_19 : decode cX1_isSameAs 19 = .ok (.if_icmp .ne 18, 3) := by decide +kernel
theorem dX1_isSameAs_22 : decode cX1_isSameAs 22 = .ok (.aload_n 0, 1) := by decide +kernel
theorem dX1_isSameAs_23 : decode cX1_isSameAs 23 = .ok (.getfield 22, 3) := by decide +kernel
theorem dX1_isSameAs_26 : decode cX1_isSameAs 26 = .ok (.aload_n 1, 1) := by decide +kernel
theorem dX1_isSameAs_27 : decode cX1_isSameAs 27 = .ok (.getfield 22, 3) := by decide +kernel
theorem dX1_isSameAs_30 : decode cX1_isSameAs 30 = .ok (.if_icmp .ne 7, 3) := by decide +kernel
theorem dX1_isSameAs_33 : decode cX1_isSameAs 33 = .ok (.iconst 1, 1) := by decide +kernel
theorem dX1_isSameAs_34 : decode cX1_isSameAs 34 = .ok (.goto 4, 3) := by decide +kernel
theorem dX1_isSameAs_37 : decode cX1_isSameAs 37 = .ok (.iconst 0, 1) := by decide +kernel
theorem dX1_isSameAs_38 : decode cX1_isSameAs 38 = .ok (.ireturn, 1) := by decide +kernel
theorem dX1_isAlikeTo_0 : decode cX1_isAlikeTo 0 = .ok (.aload_n 0, 1) := by decide +kernel
theorem dX1_isAlikeTo_1 : decode cX1_isAlikeTo 1 = .ok (.invokevirtual 35, 3) := by decide +kernel
theorem dX1_isAlikeTo_4 : decode cX1_isAlikeTo 4 = .ok (.aload_n 1, 1) := by decide +kernel
theorem dX1_isAlikeTo_5 : decode cX1_isAlikeTo 5 = .ok (.invokevirtual 35, 3) := by decide +kernel
theorem dX1_isAlikeTo_8 : decode cX1_isAlikeTo 8 = .ok (.lcmp, 1) := by decide +kernel
theorem dX1_isAlikeTo_9 : decode cX1_isAlikeTo 9 = .ok (.ifCond .ne 18, 3) := by decide +kernel
theorem dX1_isAlikeTo_12 : decode cX1_isAlikeTo 12 = .ok (.aload_n 0, 1) := by decide +kernel
theorem dX1_isAlikeTo_13 : decode cX1_isAlikeTo 13 = .ok (.getfield 22, 3) := by decide +kernel
theorem dX1_isAlikeTo_16 : decode cX1_isAlikeTo 16 = .ok (.aload_n 1, 1) := by decide +kernel
theorem dX1_isAlikeTo_17 : decode cX1_isAlikeTo 17 = .ok (.getfield 22, 3) := by decide +kernel
theorem dX1_isAlikeTo_20 : decode cX1_isAlikeTo 20 = .ok (.if_icmp .ne 7, 3) := by decide +kernel
theorem dX1_isAlikeTo_23 : decode cX1_isAlikeTo 23 = .ok (.iconst 1, 1) := by decide +kernel
theorem dX1_isAlikeTo_24 : decode cX1_isAlikeTo 24 = .ok (.goto 4, 3) := by decide +kernel
theorem dX1_isAlikeTo_27 : decode cX1_isAlikeTo 27 = .ok (.iconst 0, 1) := by decide +kernel
theorem dX1_isAlikeTo_28 : decode cX1_isAlikeTo 28 = .ok (.ireturn, 1) := by decide +kernel
theorem dX1_inSigns_0 : decode cX1_inSigns 0 = .ok (.new 61, 3) := by decide +kernel
theorem dX1_inSigns_3 : decode cX1_inSigns 3 = .ok (.dup, 1) := by decide +kernel
theorem dX1_inSigns_4 : decode cX1_inSigns 4 = .ok (.invokespecial 63, 3) := by decide +kernel
theorem dX1_inSigns_7 : decode cX1_inSigns 7 = .ok (.astore_n 1, 1) := by decide +kernel
theorem dX1_inSigns_8 : decode cX1_inSigns 8 = .ok (.aload_n 1, 1) := by decide +kernel
theorem dX1_inSigns_9 : decode cX1_inSigns 9 = .ok (.aload_n 0, 1) := by decide +kernel
theorem dX1_inSigns_10 : decode cX1_inSigns 10 = .ok (.getfield 13, 3) := by decide +kernel
theorem dX1_inSigns_13 : decode cX1_inSigns 13 = .ok (.invokevirtual 64, 3) := by decide +kernel
theorem dX1_inSigns_16 : decode cX1_inSigns 16 = .ok (.pop, 1) := by decide +kernel
theorem dX1_inSigns_17 : decode cX1_inSigns 17 = .ok (.aload_n 1, 1) := by decide +kernel
theorem dX1_inSigns_18 : decode cX1_inSigns 18 = .ok (.ldc 68, 2) := by decide +kernel
theorem dX1_inSigns_20 : decode cX1_inSigns 20 = .ok (.invokevirtual 70, 3) := by decide +kernel
theorem dX1_inSigns_23 : decode cX1_inSigns 23 = .ok (.pop, 1) := by decide +kernel
theorem dX1_inSigns_24 : decode cX1_inSigns 24 = .ok (.aload_n 1, 1) := by decide +kernel
theorem dX1_inSigns_25 : decode cX1_inSigns 25 = .ok (.aload_n 0, 1) := by decide +kernel
theorem dX1_inSigns_26 : decode cX1_inSigns 26 = .ok (.getfield 19, 3) := by decide +kernel
theorem dX1_inSigns_29 : decode cX1_inSigns 29 = .ok (.invokevirtual 64, 3) := by decide +kernel
theorem dX1_inSigns_32 : decode cX1_inSigns 32 = .ok (.pop, 1) := by decide +kernel
theorem dX1_inSigns_33 : decode cX1_inSigns 33 = .ok (.aload_n 1, 1) := by decide +kernel
theorem dX1_inSigns_34 : decode cX1_inSigns 34 = .ok (.ldc 73, 2) := by decide +kernel
theorem dX1_inSigns_36 : decode cX1_inSigns 36 = .ok (.invokevirtual 70, 3) := by decide +kernel
theorem dX1_inSigns_39 : decode cX1_inSigns 39 = .ok (.pop, 1) := by decide +kernel
theorem dX1_inSigns_40 : decode cX1_inSigns 40 = .ok (.aload_n 1, 1) := by decide +kernel
theorem dX1_inSigns_41 : decode cX1_inSigns 41 = .ok (.aload_n 0, 1) := by decide +kernel
theorem dX1_inSigns_42 : decode cX1_inSigns 42 = .ok (.getfield 22, 3) := by decide +kernel
theorem dX1_inSigns_45 : decode cX1_inSigns 45 = .ok (.invokevirtual 64, 3) := by decide +kernel
theorem dX1_inSigns_48 : decode cX1_inSigns 48 = .ok (.pop, 1) := by decide +kernel
theorem dX1_inSigns_49 : decode cX1_inSigns 49 = .ok (.aload_n 1, 1) := by decide +kernel
theorem dX1_inSigns_50 : decode cX1_inSigns 50 = .ok (.bipush 100, 2) := by decide +kernel
theorem dX1_inSigns_52 : decode cX1_inSigns 52 = .ok (.invokevirtual 75, 3) := by decide +kernel
theorem dX1_inSigns_55 : decode cX1_inSigns 55 = .ok (.pop, 1) := by decide +kernel
theorem dX1_inSigns_56 : decode cX1_inSigns 56 = .ok (.aload_n 1, 1) := by decide +kernel
theorem dX1_inSigns_57 : decode cX1_inSigns 57 = .ok (.invokevirtual 78, 3) := by decide +kernel
theorem dX1_inSigns_60 : decode cX1_inSigns 60 = .ok (.areturn, 1) := by decide +kernel
theorem dX1_signs_0 : decode cX1_signs 0 = .ok (.aload_n 0, 1) := by decide +kernel
theorem dX1_signs_1 : decode cX1_signs 1 = .ok (.getfield 13, 3) := by decide +kernel
theorem dX1_signs_4 : decode cX1_signs 4 = .ok (.invokestatic 82, 3) := by decide +kernel
theorem dX1_signs_7 : decode cX1_signs 7 = .ok (.aload_n 0, 1) := by decide +kernel
theorem dX1_signs_8 : decode cX1_signs 8 = .ok (.getfield 19, 3) := by decide +kernel
theorem dX1_signs_11 : decode cX1_signs 11 = .ok (.invokestatic 82, 3) := by decide +kernel
theorem dX1_signs_14 : decode cX1_signs 14 = .ok (.iadd, 1) := by decide +kernel
theorem dX1_signs_15 : decode cX1_signs 15 = .ok (.aload_n 0, 1) := by decide +kernel
theorem dX1_signs_16 : decode cX1_signs 16 = .ok (.getfield 22, 3) := by decide +kernel
theorem dX1_signs_19 : decode cX1_signs 19 = .ok (.invokestatic 82, 3) := by decide +kernel
theorem dX1_signs_22 : decode cX1_signs 22 = .ok (.iadd, 1) := by decide +kernel
theorem dX1_signs_23 : decode cX1_signs 23 = .ok (.iconst 5, 1) := by decide +kernel
theorem dX1_signs_24 : decode cX1_signs 24 = .ok (.iadd, 1) := by decide +kernel
theorem dX1_signs_25 : decode cX1_signs 25 = .ok (.ireturn, 1) := by decide +kernel
theorem dX2_init_0 : decode cX2_init 0 = .ok (.aload_n 0, 1) := by decide +kernel
theorem dX2_init_1 : decode cX2_init 1 = .ok (.invokespecial 1, 3) := by decide +kernel
theorem dX2_init_4 : decode cX2_init 4 = .ok (.aload_n 0, 1) := by decide +kernel
theorem dX2_init_5 : decode cX2_init 5 = .ok (.iconst 4, 1) := by decide +kernel
theorem dX2_init_6 : decode cX2_init 6 = .ok (.anewarray 9, 3) := by decide +kernel
theorem dX2_init_9 : decode cX2_init 9 = .ok (.putfield 11, 3) := by decide +kernel
theorem dX2_init_12 : decode cX2_init 12 = .ok (.aload_n 0, 1) := by decide +kernel
theorem dX2_init_13 : decode cX2_init 13 = .ok (.bipush 8, 2) := by decide +kernel
theorem dX2_init_15 : decode cX2_init 15 = .ok (.anewarray 9, 3) := by decide +kernel
theorem dX2_init_18 : decode cX2_init 18 = .ok (.putfield 15, 3) := by decide +kernel
theorem dX2_init_21 : decode cX2_init 21 = .ok (.aload_n 0, 1) := by decide +kernel
theorem dX2_init_22 : decode cX2_init 22 = .ok (.iconst 4, 1) := by decide +kernel
theorem dX2_init_23 : decode cX2_init 23 = .ok (.anewarray 18, 3) := by decide +kernel
theorem dX2_init_26 : decode cX2_init 26 = .ok (.putfield 20, 3) := by decide +kernel
theorem dX2_init_29 : decode cX2_init 29 = .ok (.aload_n 0, 1) := by decide +kernel
theorem dX2_init_30 : decode cX2_init 30 = .ok (.new 9, 3) := by decide +kernel
theorem dX2_init_33 : decode cX2_init 33 = .ok (.dup, 1) := by decide +kernel
theorem dX2_init_34 : decode cX2_init 34 = .ok (.invokespecial 24, 3) := by decide +kernel
theorem dX2_init_37 : decode cX2_init 37 = .ok (.putfield 25, 3) := by decide +kernel
theorem dX2_init_40 : decode cX2_init 40 = .ok (.aload_n 0, 1) := by decide +kernel
theorem dX2_init_41 : decode cX2_init 41 = .ok (.new 9, 3) := by decide +kernel
theorem dX2_init_44 : decode cX2_init 44 = .ok (.dup, 1) := by decide +kernel
theorem dX2_init_45 : decode cX2_init 45 = .ok (.invokespecial 24, 3) := by decide +kernel
theorem dX2_init_48 : decode cX2_init 48 = .ok (.putfield 29, 3) := by decide +kernel
theorem dX2_init_51 : decode cX2_init 51 = .ok (.aload_n 0, 1) := by decide +kernel
theorem dX2_init_52 : decode cX2_init 52 = .ok (.new 18, 3) := by decide +kernel
theorem dX2_init_55 : decode cX2_init 55 = .ok (.dup, 1) := by decide +kernel
theorem dX2_init_56 : decode cX2_init 56 = .ok (.invokespecial 32, 3) := by decide +kernel
theorem dX2_init_59 : decode cX2_init 59 = .ok (.putfield 33, 3) := by decide +kernel
theorem dX2_init_62 : decode cX2_init 62 = .ok (.iconst 0, 1) := by decide +kernel
theorem dX2_init_63 : decode cX2_init 63 = .ok (.istore_n 1, 1) := by decide +kernel
theorem dX2_init_64 : decode cX2_init 64 = .ok (.iload_n 1, 1) := by decide +kernel
theorem dX2_init_65 : decode cX2_init 65 = .ok (.iconst 4, 1) := by decide +kernel
theorem dX2_init_66 : decode cX2_init 66 = .ok (.if_icmp .ge 22, 3) := by decide +kernel
theorem dX2_init_69 : decode cX2_init 69 = .ok (.aload_n 0, 1) := by decide +kernel
theorem dX2_init_70 : decode cX2_init 70 = .ok (.getfield 11, 3) := by decide +kernel
theorem dX2_init_73 : decode cX2_init 73 = .ok (.iload_n 1, 1) := by decide +kernel
theorem dX2_init_74 : decode cX2_init 74 = .ok (.new 9, 3) := by decide +kernel
theorem dX2_init_77 : decode cX2_init 77 = .ok (.dup, 1) := by decide +kernel
theorem dX2_init_78 : decode cX2_init 78 = .ok (.invokespecial 24, 3) := by decide +kernel
theorem dX2_init_81 : decode cX2_init 81 = .ok (.aastore, 1) := by decide +kernel
theorem dX2_init_82 : decode cX2_init 82 = .ok (.iinc 1 1, 3) := by decide +kernel
theorem dX2_init_85 : decode cX2_init 85 = .ok (.goto (-21), 3) := by decide +kernel
theorem dX2_init_88 : decode cX2_init 88 = .ok (.iconst 0, 1) := by decide +kernel
theorem dX2_init_89 : decode cX2_init 89 = .ok (.istore_n 1, 1) := by decide +kernel
theorem dX2_init_90 : decode cX2_init 90 = .ok (.iload_n 1, 1) := by decide +kernel
theorem dX2_init_91 : decode cX2_init 91 = .ok (.bipush 8, 2) := by decide +kernel
theorem dX2_init_93 : decode cX2_init 93 = .ok (.if_icmp .ge 22, 3) := by decide +kernel
theorem dX2_init_96 : decode cX2_init 96 = .ok (.aload_n 0, 1) := by decide +kernel
theorem dX2_init_97 : decode cX2_init 97 = .ok (.getfield 15, 3) := by decide +kernel
theorem dX2_init_100 : decode cX2_init 100 = .ok (.iload_n 1, 1) := by decide +kernel
theorem dX2_init_101 : decode cX2_init 101 = .ok (.new 9, 3) := by decide +kernel
theorem dX2_init_104 : decode cX2_init 104 = .ok (.dup, 1) := by decide +kernel
theorem dX2_init_105 : decode cX2_init 105 = .ok (.invokespecial 24, 3) := by decide +kernel
theorem dX2_init_108 : decode cX2_init 108 = .ok (.aastore, 1) := by decide +kernel
theorem dX2_init_109 : decode cX2_init 109 = .ok (.iinc 1 1, 3) := by decide +kernel
theorem dX2_init_112 : decode cX2_init 112 = .ok (.goto (-22), 3) := by decide +kernel
theorem dX2_init_115 : decode cX2_init 115 = .ok (.iconst 0, 1) := by decide +kernel
theorem dX2_init_116 : decode cX2_init 116 = .ok (.istore_n 1, 1) := by decide +kernel
theorem dX2_init_117 : decode cX2_init 117 = .ok (.iload_n 1, 1) := by decide +kernel
theorem dX2_init_118 : decode cX2_init 118 = .ok (.iconst 4, 1) := by decide +kernel
theorem dX2_init_119 : decode cX2_init 119 = .ok (.if_icmp .ge 22, 3) := by decide +kernel
theorem dX2_init_122 : decode cX2_init 122 = .ok (.aload_n 0, 1) := by decide +kernel
theorem dX2_init_123 : decode cX2_init 123 = .ok (.getfield 20, 3) := by decide +kernel
theorem dX2_init_126 : decode cX2_init 126 = .ok (.iload_n 1, 1) := by decide +kernel
theorem dX2_init_127 : decode cX2_init 127 = .ok (.new 18, 3) := by decide +kernel
theorem dX2_init_130 : decode cX2_init 130 = .ok (.dup, 1) := by decide +kernel
theorem dX2_init_131 : decode cX2_init 131 = .ok (.invokespecial 32, 3) := by decide +kernel
theorem dX2_init_134 : decode cX2_init 134 = .ok (.aastore, 1) := by decide +kernel
theorem dX2_init_135 : decode cX2_init 135 = .ok (.iinc 1 1, 3) := by decide +kernel
theorem dX2_init_138 : decode cX2_init 138 = .ok (.goto (-21), 3) := by decide +kernel
theorem dX2_init_141 : decode cX2_init 141 = .ok (.return_, 1) := by decide +kernel
theorem dX2_write_0 : decode cX2_write 0 = .ok (.aload_n 0, 1) := by decide +kernel
theorem dX2_write_1 : decode cX2_write 1 = .ok (.aload_n 0, 1) := by decide +kernel
theorem dX2_write_2 : decode cX2_write 2 = .ok (.iload_n 1, 1) := by decide +kernel
theorem dX2_write_3 : decode cX2_write 3 = .ok (.invokevirtual 37, 3) := by decide +kernel
theorem dX2_write_6 : decode cX2_write 6 = .ok (.aload_n 0, 1) := by decide +kernel
theorem dX2_write_7 : decode cX2_write 7 = .ok (.getfield 25, 3) := by decide +kernel
theorem dX2_write_10 : decode cX2_write 10 = .ok (.iload_n 2, 1) := by decide +kernel
theorem dX2_write_11 : decode cX2_write 11 = .ok (.i2l, 1) := by decide +kernel
theorem dX2_write_12 : decode cX2_write 12 = .ok (.iload_n 3, 1) := by decide +kernel
theorem dX2_write_13 : decode cX2_write 13 = .ok (.i2l, 1) := by decide +kernel
theorem dX2_write_14 : decode cX2_write 14 = .ok (.iload 4, 2) := by decide +kernel
theorem dX2_write_16 : decode cX2_write 16 = .ok (.i2l, 1) := by decide +kernel
theorem dX2_write_17 : decode cX2_write 17 = .ok (.invokevirtual 41, 3) := by decide +kernel
theorem dX2_write_20 : decode cX2_write 20 = .ok (.invokevirtual 45, 3) := by decide +kernel
theorem dX2_write_23 : decode cX2_write 23 = .ok (.ireturn, 1) := by decide +kernel
theorem dX2_ofYears_0 : decode cX2_ofYears 0 = .ok (.aload_n 0, 1) := by decide +kernel
theorem dX2_ofYears_1 : decode cX2_ofYears 1 = .ok (.aload_n 0, 1) := by decide +kernel
theorem dX2_ofYears_2 : decode cX2_ofYears 2 = .ok (.iload_n 1, 1) := by decide +kernel
theorem dX2_ofYears_3 : decode cX2_ofYears 3 = .ok (.invokevirtual 37, 3) := by decide +kernel
theorem dX2_ofYears_6 : decode cX2_ofYears 6 = .ok (.aload_n 0, 1) := by decide +kernel
theorem dX2_ofYears_7 : decode cX2_ofYears 7 = .ok (.getfield 25, 3) := by decide +kernel
theorem dX2_ofYears_10 : decode cX2_ofYears 10 = .ok (.iload_n 2, 1) := by decide +kernel
theorem dX2_ofYears_11 : decode cX2_ofYears 11 = .ok (.i2l, 1) := by decide +kernel
theorem dX2_ofYears_12 : decode cX2_ofYears 12 = .ok (.lconst 0, 1) := by decide +kernel
theorem dX2_ofYears_13 : decode cX2_ofYears 13 = .ok (.lconst 0, 1) := by decide +kernel
theorem dX2_ofYears_14 : decode cX2_ofYears 14 = .ok (.invokevirtual 41, 3) := by decide +kernel
theorem dX2_ofYears_17 : decode cX2_ofYears 17 = .ok (.invokevirtual 45, 3) := by decide +kernel
theorem dX2_ofYears_20 : decode cX2_ofYears 20 = .ok (.ireturn, 1) := by decide +kernel
theorem dX2_ofMonths_0 : decode cX2_ofMonths 0 = .ok (.aload_n 0, 1) := by decide +kernel
theorem dX2_ofMonths_1 : decode cX2_ofMonths 1 = .ok (.aload_n 0, 1) := by decide +kernel
theorem dX2_ofMonths_2 : decode cX2_ofMonths 2 = .ok (.iload_n 1, 1) := by decide +kernel
theorem dX2_ofMonths_3 : decode cX2_ofMonths 3 = .ok (.invokevirtual 37, 3) := by decide +kernel
theorem dX2_ofMonths_6 : decode cX2_ofMonths 6 = .ok (.aload_n 0, 1) := by decide +kernel
theorem dX2_ofMonths_7 : decode cX2_ofMonths 7 = .ok (.getfield 25, 3) := by decide +kernel
theorem dX2_ofMonths_10 : decode cX2_ofMonths 10 = .ok (.lconst 0, 1) := by decide +kernel
theorem dX2_ofMonths_11 : decode cX2_ofMonths 11 = .ok (.iload_n 2, 1) := by decide +kernel
theorem dX2_ofMonths_12 : decode cX2_ofMonths 12 = .ok (.i2l, 1) := by decide +kernel
theorem dX2_ofMonths_13 : decode cX2_ofMonths 13 = .ok (.lconst 0, 1) := by decide +kernel
theorem dX2_ofMonths_14 : decode cX2_ofMonths 14 = .ok (.invokevirtual 41, 3) := by decide +kernel
theorem dX2_ofMonths_17 : decode cX2_ofMonths 17 = .ok (.invokevirtual 45, 3) := by decide +kernel
theorem dX2_ofMonths_20 : decode cX2_ofMonths 20 = .ok (.ireturn, 1) := by decide +kernel
theorem dX2_ofWeeks_0 : decode cX2_ofWeeks 0 = .ok (.aload_n 0, 1) := by decide +kernel
theorem dX2_ofWeeks_1 : decode cX2_ofWeeks 1 = .ok (.aload_n 0, 1) := by decide +kernel
theorem dX2_ofWeeks_2 : decode cX2_ofWeeks 2 = .ok (.iload_n 1, 1) := by decide +kernel
theorem dX2_ofWeeks_3 : decode cX2_ofWeeks 3 = .ok (.invokevirtual 37, 3) := by decide +kernel
theorem dX2_ofWeeks_6 : decode cX2_ofWeeks 6 = .ok (.aload_n 0, 1) := by decide +kernel
theorem dX2_ofWeeks_7 : decode cX2_ofWeeks 7 = .ok (.getfield 25, 3) := by decide +kernel
theorem dX2_ofWeeks_10 : decode cX2_ofWeeks 10 = .ok (.lconst 0, 1) := by decide +kernel
theorem dX2_ofWeeks_11 : decode cX2_ofWeeks 11 = .ok (.lconst 0, 1) := by decide +kernel
theorem dX2_ofWeeks_12 : decode cX2_ofWeeks 12 = .ok (.iload_n 2, 1) := by decide +kernel
theorem dX2_ofWeeks_13 : decode cX2_ofWeeks 13 = .ok (.i2l, 1) := by decide +kernel
theorem dX2_ofWeeks_14 : decode cX2_ofWeeks 14 = .ok (.ldc2_w 49, 3) := by decide +kernel
theorem dX2_ofWeeks_17 : decode cX2_ofWeeks 17 = .ok (.lmul, 1) := by decide +kernel
theorem dX2_ofWeeks_18 : decode cX2_ofWeeks 18 = .ok (.invokevirtual 41, 3) := by decide +kernel
theorem dX2_ofWeeks_21 : decode cX2_ofWeeks 21 = .ok (.invokevirtual 45, 3) := by decide +kernel
theorem dX2_ofWeeks_24 : decode cX2_ofWeeks 24 = .ok (.ireturn, 1) := by decide +kernel
theorem dX2_ofDays_0 : decode cX2_ofDays 0 = .ok (.aload_n 0, 1) := by decide +kernel
theorem dX2_ofDays_1 : decode cX2_ofDays 1 = .ok (.aload_n 0, 1) := by decide +kernel
theorem dX2_ofDays_2 : decode cX2_ofDays 2 = .ok (.iload_n 1, 1) := by decide +kernel
theorem dX2_ofDays_3 : decode cX2_ofDays 3 = .ok (.invokevirtual 37, 3) := by decide +kernel
theorem dX2_ofDays_6 : decode cX2_ofDays 6 = .ok (.aload_n 0, 1) := by decide +kernel
theorem dX2_ofDays_7 : decode cX2_ofDays 7 = .ok (.getfield 25, 3) := by decide +kernel
theorem dX2_ofDays_10 : decode cX2_ofDays 10 = .ok (.lconst 0, 1) := by decide +kernel
theorem dX2_ofDays_11 : decode cX2_ofDays 11 = .ok (.lconst 0, 1) := by decide +kernel
theorem dX2_ofDays_12 : decode cX2_ofDays 12 = .ok (.iload_n 2, 1) := by decide +kernel
theorem dX2_ofDays_13 : decode cX2_ofDays 13 = .ok (.i2l, 1) := by decide +kernel
theorem dX2_ofDays_14 : decode cX2_ofDays 14 = .ok (.invokevirtual 41, 3) := by decide +kernel
theorem dX2_ofDays_17 : decode cX2_ofDays 17 = .ok (.invokevirtual 45, 3) := by decide +kernel
theorem dX2_ofDays_20 : decode cX2_ofDays 20 = .ok (.ireturn, 1) := by decide +kernel
theorem dX2_change_0 : decode cX2_change 0 = .ok (.aload_n 0, 1) := by decide +kernel
theorem dX2_change_1 : decode cX2_change 1 = .ok (.iload_n 1, 1) := by decide +kernel
theorem dX2_change_2 : decode cX2_change 2 = .ok (.invokevirtual 37, 3) := by decide +kernel
theorem dX2_change_5 : decode cX2_change 5 = .ok (.astore 4, 2) := by decide +kernel
theorem dX2_change_7 : decode cX2_change 7 = .ok (.iload_n 2, 1) := by decide +kernel
theorem dX2_change_8 : decode cX2_change 8 = .ok (.iconst 3, 1) := by decide +kernel
theorem dX2_change_9 : decode cX2_change 9 = .ok (.invokestatic 51, 3) := by decide +kernel
theorem dX2_change_12 : decode cX2_change 12 = .ok (.iload_n 2, 1) := by decide +kernel
theorem dX2_change_13 : decode cX2_change 13 = .ok (.ifCond .ne 7, 3) := by decide +kernel
theorem dX2_change_16 : decode cX2_change 16 = .ok (.iload_n 3, 1) := by decide +kernel
theorem dX2_change_17 : decode cX2_change 17 = .ok (.goto 8, 3) := by decide +kernel
theorem dX2_change_20 : decode cX2_change 20 = .ok (.aload 4, 2) := by decide +kernel
theorem dX2_change_22 : decode cX2_change 22 = .ok (.getfield 55, 3) := by decide +kernel
theorem dX2_change_25 : decode cX2_change 25 = .ok (.istore 5, 2) := by decide +kernel
theorem dX2_change_27 : decode cX2_change 27 = .ok (.iload_n 2, 1) := by decide +kernel
theorem dX2_change_28 : decode cX2_change 28 = .ok (.iconst 1, 1) := by decide +kernel
theorem dX2_change_29 : decode cX2_change 29 = .ok (.if_icmp .ne 7, 3) := by decide +kernel
theorem dX2_change_32 : decode cX2_change 32 = .ok (.iload_n 3, 1) := by decide +kernel
theorem dX2_change_33 : decode cX2_change 33 = .ok (.goto 8, 3) := by decide +kernel
theorem dX2_change_36 : decode cX2_change 36 = .ok (.aload 4, 2) := by decide +kernel
theorem dX2_change_38 : decode cX2_change 38 = .ok (.getfield 59, 3) := by decide +kernel
theorem dX2_change_41 : decode cX2_change 41 = .ok (.istore 6, 2) := by decide +kernel
theorem dX2_change_43 : decode cX2_change 43 = .ok (.iload_n 2, 1) := by decide +kernel
theorem dX2_change_44 : decode cX2_change 44 = .ok (.iconst 2, 1) := by decide +kernel
theorem dX2_change_45 : decode cX2_change 45 = .ok (.if_icmp .ne 7, 3) := by decide +kernel
theorem dX2_change_48 : decode cX2_change 48 = .ok (.iload_n 3, 1) := by decide +kernel
theorem dX2_change_49 : decode cX2_change 49 = .ok (.goto 8, 3) := by decide +kernel
theorem dX2_change_52 : decode cX2_change 52 = .ok (.aload 4, 2) := by decide +kernel
theorem dX2_change_54 : decode cX2_change 54 = .ok (.getfield 62, 3) := by decide +kernel
theorem dX2_change_57 : decode cX2_change 57 = .ok (.istore 7, 2) := by decide +kernel
theorem dX2_change_59 : decode cX2_change 59 = .ok (.aload_n 0, 1) := by decide +kernel
theorem dX2_change_60 : decode cX2_change 60 = .ok (.aload 4, 2) := by decide +kernel
theorem dX2_change_62 : decode cX2_change 62 = .ok (.aload_n 0, 1) := by decide +kernel
theorem dX2_change_63 : decode cX2_change 63 = .ok (.getfield 25, 3) := by decide +kernel
theorem dX2_change_66 : decode cX2_change 66 = .ok (.iload 5, 2) := by decide +kernel
theorem dX2_change_68 : decode cX2_change 68 = .ok (.i2l, 1) := by decide +kernel
theorem dX2_change_69 : decode cX2_change 69 = .ok (.iload 6, 2) := by decide +kernel
theorem dX2_change_71 : decode cX2_change 71 = .ok (.i2l, 1) := by decide +kernel
theorem dX2_change_72 : decode cX2_change 72 = .ok (.iload 7, 2) := by decide +kernel
theorem dX2_change_74 : decode cX2_change 74 = .ok (.i2l, 1) := by decide +kernel
theorem dX2_change_75 : decode cX2_change 75 = .ok (.invokevirtual 41, 3) := by decide +kernel
theorem dX2_change_78 : decode cX2_change 78 = .ok (.invokevirtual 45, 3) := by decide +kernel
theorem dX2_change_81 : decode cX2_change 81 = .ok (.ireturn, 1) := by decide +kernel
theorem dX2_copy_0 : decode cX2_copy 0 = .ok (.aload_n 0, 1) := by decide +kernel
theorem dX2_copy_1 : decode cX2_copy 1 = .ok (.iload_n 1, 1) := by decide +kernel
theorem dX2_copy_2 : decode cX2_copy 2 = .ok (.invokevirtual 37, 3) := by decide +kernel
theorem dX2_copy_5 : decode cX2_copy 5 = .ok (.astore_n 3, 1) := by decide +kernel
theorem dX2_copy_6 : decode cX2_copy 6 = .ok (.aload_n 0, 1) := by decide +kernel
theorem dX2_copy_7 : decode cX2_copy 7 = .ok (.getfield 25, 3) := by decide +kernel
theorem dX2_copy_10 : decode cX2_copy 10 = .ok (.aload_n 0, 1) := by decide +kernel
theorem dX2_copy_11 : decode cX2_copy 11 = .ok (.iload_n 2, 1) := by decide +kernel
theorem dX2_copy_12 : decode cX2_copy 12 = .ok (.invokevirtual 37, 3) := by decide +kernel
theorem dX2_copy_15 : decode cX2_copy 15 = .ok (.invokevirtual 65, 3) := by decide +kernel
theorem dX2_copy_18 : decode cX2_copy 18 = .ok (.aload_n 0, 1) := by decide +kernel
theorem dX2_copy_19 : decode cX2_copy 19 = .ok (.aload_n 3, 1) := by decide +kernel
theorem dX2_copy_20 : decode cX2_copy 20 = .ok (.iconst 1, 1) := by decide +kernel
theorem dX2_copy_21 : decode cX2_copy 21 = .ok (.invokevirtual 45, 3) := by decide +kernel
theorem dX2_copy_24 : decode cX2_copy 24 = .ok (.ireturn, 1) := by decide +kernel
theorem dX2_swap_0 : decode cX2_swap 0 = .ok (.aload_n 0, 1) := by decide +kernel
theorem dX2_swap_1 : decode cX2_swap 1 = .ok (.iload_n 1, 1) := by decide +kernel
theorem dX2_swap_2 : decode cX2_swap 2 = .ok (.invokevirtual 37, 3) := by decide +kernel
theorem dX2_swap_5 : decode cX2_swap 5 = .ok (.astore_n 3, 1) := by decide +kernel
theorem dX2_swap_6 : decode cX2_swap 6 = .ok (.aload_n 0, 1) := by decide +kernel
theorem dX2_swap_7 : decode cX2_swap 7 = .ok (.iload_n 2, 1) := by decide +kernel
theorem dX2_swap_8 : decode cX2_swap 8 = .ok (.invokevirtual 37, 3) := by decide +kernel
theorem dX2_swap_11 : decode cX2_swap 11 = .ok (.astore 4, 2) := by decide +kernel
theorem dX2_swap_13 : decode cX2_swap 13 = .ok (.aload_n 0, 1) := by decide +kernel
theorem dX2_swap_14 : decode cX2_swap 14 = .ok (.getfield 25, 3) := by decide +kernel
theorem dX2_swap_17 : decode cX2_swap 17 = .ok (.aload 4, 2) := by decide +kernel
theorem dX2_swap_19 : decode cX2_swap 19 = .ok (.invokevirtual 65, 3) := by decide +kernel
theorem dX2_swap_22 : decode cX2_swap 22 = .ok (.aload 4, 2) := by decide +kernel
theorem dX2_swap_24 : decode cX2_swap 24 = .ok (.aload_n 3, 1) := by decide +kernel
theorem dX2_swap_25 : decode cX2_swap 25 = .ok (.invokevirtual 65, 3) := by decide +kernel
theorem dX2_swap_28 : decode cX2_swap 28 = .ok (.aload_n 0, 1) := by decide +kernel
theorem dX2_swap_29 : decode cX2_swap 29 = .ok (.aload_n 3, 1) := by decide +kernel
theorem dX2_swap_30 : decode cX2_swap 30 = .ok (.iconst 1, 1) := by decide +kernel
theorem dX2_swap_31 : decode cX2_swap 31 = .ok (.invokevirtual 45, 3) := by decide +kernel
theorem dX2_swap_34 : decode cX2_swap 34 = .ok (.ireturn, 1) := by decide +kernel
theorem dX2_plusYears_0 : decode cX2_plusYears 0 = .ok (.aload_n 0, 1) := by decide +kernel
theorem dX2_plusYears_1 : decode cX2_plusYears 1 = .ok (.iload_n 1, 1) := by decide +kernel
theorem dX2_plusYears_2 : decode cX2_plusYears 2 = .ok (.invokevirtual 37, 3) := by decide +kernel
theorem dX2_plusYears_5 : decode cX2_plusYears 5 = .ok (.astore 4, 2) := by decide +kernel
theorem dX2_plusYears_7 : decode cX2_plusYears 7 = .ok (.iload_n 2, 1) := by decide +kernel
theorem dX2_plusYears_8 : decode cX2_plusYears 8 = .ok (.iload_n 3, 1) := by decide +kernel
theorem dX2_plusYears_9 : decode cX2_plusYears 9 = .ok (.invokestatic 69, 3) := by decide +kernel
theorem dX2_plusYears_12 : decode cX2_plusYears 12 = .ok (.lstore 5, 2) := by decide +kernel
theorem dX2_plusYears_14 : decode cX2_plusYears 14 = .ok (.aload_n 0, 1) := by decide +kernel
theorem dX2_plusYears_15 : decode cX2_plusYears 15 = .ok (.aload 4, 2) := by decide +kernel
theorem dX2_plusYears_17 : decode cX2_plusYears 17 = .ok (.aload_n 0, 1) := by decide +kernel
theorem dX2_plusYears_18 : decode cX2_plusYears 18 = .ok (.getfield 25, 3) := by decide +kernel
theorem dX2_plusYears_21 : decode cX2_plusYears 21 = .ok (.aload 4, 2) := by decide +kernel
theorem dX2_plusYears_23 : decode cX2_plusYears 23 = .ok (.getfield 55, 3) := by decide +kernel
theorem dX2_plusYears_26 : decode cX2_plusYears 26 = .ok (.i2l, 1) := by decide +kernel
theorem dX2_plusYears_27 : decode cX2_plusYears 27 = .ok (.lload 5, 2) := by decide +kernel
theorem dX2_plusYears_29 : decode cX2_plusYears 29 = .ok (.ladd, 1) := by decide +kernel
theorem dX2_plusYears_30 : decode cX2_plusYears 30 = .ok (.aload 4, 2) := by decide +kernel
theorem dX2_plusYears_32 : decode cX2_plusYears 32 = .ok (.getfield 59, 3) := by decide +kernel
theorem dX2_plusYears_35 : decode cX2_plusYears 35 = .ok (.i2l, 1) := by decide +kernel
theorem dX2_plusYears_36 : decode cX2_plusYears 36 = .ok (.aload 4, 2) := by decide +kernel
theorem dX2_plusYears_38 : decode cX2_plusYears 38 = .ok (.getfield 62, 3) := by decide +kernel
theorem dX2_plusYears_41 : decode cX2_plusYears 41 = .ok (.i2l, 1) := by decide +kernel
theorem dX2_plusYears_42 : decode cX2_plusYears 42 = .ok (.invokevirtual 41, 3) := by decide +kernel
theorem dX2_plusYears_45 : decode cX2_plusYears 45 = .ok (.invokevirtual 45, 3) := by decide +kernel
theorem dX2_plusYears_48 : decode cX2_plusYears 48 = .ok (.ireturn, 1) := by decide +kernel
theorem dX2_plusMonths_0 : decode cX2_plusMonths 0 = .ok (.aload_n 0, 1) := by decide +kernel
theorem dX2_plusMonths_1 : decode cX2_plusMonths 1 = .ok (.iload_n 1, 1) := by decide +kernel
theorem dX2_plusMonths_2 : decode cX2_plusMonths 2 = .ok (.invokevirtual 37, 3) := by decide +kernel
theorem dX2_plusMonths_5 : decode cX2_plusMonths 5 = .ok (.astore 4, 2) := by decide +kernel
theorem dX2_plusMonths_7 : decode cX2_plusMonths 7 = .ok (.iload_n 2, 1) := by decide +kernel
theorem dX2_plusMonths_8 : decode cX2_plusMonths 8 = .ok (.iload_n 3, 1) := by decide +kernel
theorem dX2_plusMonths_9 : decode cX2_plusMonths 9 = .ok (.invokestatic 69, 3) := by decide +kernel
theorem dX2_plusMonths_12 : decode cX2_plusMonths 12 = .ok (.lstore 5, 2) := by decide +kernel
theorem dX2_plusMonths_14 : decode cX2_plusMonths 14 = .ok (.aload_n 0, 1) := by decide +kernel
theorem dX2_plusMonths_15 : decode cX2_plusMonths 15 = .ok (.aload 4, 2) := by decide +kernel
theorem dX2_plusMonths_17 : decode cX2_plusMonths 17 = .ok (.aload_n 0, 1) := by decide +kernel
theorem dX2_plusMonths_18 : decode cX2_plusMonths 18 = .ok (.getfield 25, 3) := by decide +kernel
theorem dX2_plusMonths_21 : decode cX2_plusMonths 21 = .ok (.aload 4, 2) := by decide +kernel
theorem dX2_plusMonths_23 : decode cX2_plusMonths 23 = .ok (.getfield 55, 3) := by decide +kernel
theorem dX2_plusMonths_26 : decode cX2_plusMonths 26 = .ok (.i2l, 1) := by decide +kernel
theorem dX2_plusMonths_27 : decode cX2_plusMonths 27 = .ok (.aload 4, 2) := by decide +kernel
theorem dX2_plusMonths_29 : decode cX2_plusMonths 29 = .ok (.getfield 59, 3) := by decide +kernel
theorem dX2_plusMonths_32 : decode cX2_plusMonths 32 = .ok (.i2l, 1) := by decide +kernel
theorem dX2_plusMonths_33 : decode cX2_plusMonths 33 = .ok (.lload 5, 2) := by decide +kernel
theorem dX2_plusMonths_35 : decode cX2_plusMonths 35 = .ok (.ladd, 1) := by decide +kernel
theorem dX2_plusMonths_36 : decode cX2_plusMonths 36 = .ok (.aload 4, 2) := by decide +kernel
theorem dX2_plusMonths_38 : decode cX2_plusMonths 38 = .ok (.getfield 62, 3) := by decide +kernel
theorem dX2_plusMonths_41 : decode cX2_plusMonths 41 = .ok (.i2l, 1) := by decide +kernel
theorem dX2_plusMonths_42 : decode cX2_plusMonths 42 = .ok (.invokevirtual 41, 3) := by decide +kernel
theorem dX2_plusMonths_45 : decode cX2_plusMonths 45 = .ok (.invokevirtual 45, 3) := by decide +kernel
theorem dX2_plusMonths_48 : decode cX2_plusMonths 48 = .ok (.ireturn, 1) := by decide +kernel
theorem dX2_plusDays_0 : decode cX2_plusDays 0 = .ok (.aload_n 0, 1) := by decide +kernel
theorem dX2_plusDays_1 : decode cX2_plusDays 1 = .ok (.iload_n 1, 1) := by decide +kernel
theorem dX2_plusDays_2 : decode cX2_plusDays 2 = .ok (.invokevirtual 37, 3) := by decide +kernel
theorem dX2_plusDays_5 : decode cX2_plusDays 5 = .ok (.astore 4, 2) := by decide +kernel
theorem dX2_plusDays_7 : decode cX2_plusDays 7 = .ok (.iload_n 2, 1) := by decide +kernel
theorem dX2_plusDays_8 : decode cX2_plusDays 8 = .ok (.iload_n 3, 1) := by decide +kernel
theorem dX2_plusDays_9 : decode cX2_plusDays 9 = .ok (.invokestatic 69, 3) := by decide +kernel
theorem dX2_plusDays_12 : decode cX2_plusDays 12 = .ok (.lstore 5, 2) := by decide +kernel
theorem dX2_plusDays_14 : decode cX2_plusDays 14 = .ok (.aload_n 0, 1) := by decide +kernel
theorem dX2_plusDays_15 : decode cX2_plusDays 15 = .ok (.aload 4, 2) := by decide +kernel
theorem dX2_plusDays_17 : decode cX2_plusDays 17 = .ok (.aload_n 0, 1) := by decide +kernel
theorem dX2_plusDays_18 : decode cX2_plusDays 18 = .ok (.getfield 25, 3) := by decide +kernel
theorem dX2_plusDays_21 : decode cX2_plusDays 21 = .ok (.aload 4, 2) := by decide +kernel
theorem dX2_plusDays_23 : decode cX2_plusDays 23 = .ok (.getfield 55, 3) := by decide +kernel
theorem dX2_plusDays_26 : decode cX2_plusDays 26 = .ok (.i2l, 1) := by decide +kernel
theorem dX2_plusDays_27 : decode cX2_plusDays 27 = .ok (.aload 4, 2) := by decide +kernel
theorem dX2_plusDays_29 : decode cX2_plusDays 29 = .ok (.getfield 59, 3) := by decide +kernel
theorem dX2_plusDays_32 : decode cX2_plusDays 32 = .ok (.i2l, 1) := by decide +kernel
theorem dX2_plusDays_33 : decode cX2_plusDays 33 = .ok (.aload 4, 2) := by decide +kernel
theorem dX2_plusDays_35 : decode cX2_plusDays 35 = .ok (.getfield 62, 3) := by decide +kernel
theorem dX2_plusDays_38 : decode cX2_plusDays 38 = .ok (.i2l, 1) := by decide +kernel
theorem dX2_plusDays_39 : decode cX2_plusDays 39 = .ok (.lload 5, 2) := by decide +kernel
theorem dX2_plusDays_41 : decode cX2_plusDays 41 = .ok (.ladd, 1) := by decide +kernel
theorem dX2_plusDays_42 : decode cX2_plusDays 42 = .ok (.invokevirtual 41, 3) := by decide +kernel
theorem dX2_plusDays_45 : decode cX2_plusDays 45 = .ok (.invokevirtual 45, 3) := by decide +kernel
theorem dX2_plusDays_48 : decode cX2_plusDays 48 = .ok (.ireturn, 1) := by decide +kernel
theorem dX2_minusYears_0 : decode cX2_minusYears 0 = .ok (.aload_n 0, 1) := by decide +kernel
theorem dX2_minusYears_1 : decode cX2_minusYears 1 = .ok (.iload_n 1, 1) := by decide +kernel
theorem dX2_minusYears_2 : decode cX2_minusYears 2 = .ok (.invokevirtual 37, 3) := by decide +kernel
theorem dX2_minusYears_5 : decode cX2_minusYears 5 = .ok (.astore 4, 2) := by decide +kernel
theorem dX2_minusYears_7 : decode cX2_minusYears 7 = .ok (.iload_n 2, 1) := by decide +kernel
theorem dX2_minusYears_8 : decode cX2_minusYears 8 = .ok (.iload_n 3, 1) := by decide +kernel
theorem dX2_minusYears_9 : decode cX2_minusYears 9 = .ok (.invokestatic 69, 3) := by decide +kernel
theorem dX2_minusYears_12 : decode cX2_minusYears 12 = .ok (.lstore 5, 2) := by decide +kernel
theorem dX2_minusYears_14 : decode cX2_minusYears 14 = .ok (.aload_n 0, 1) := by decide +kernel
theorem dX2_minusYears_15 : decode cX2_minusYears 15 = .ok (.aload 4, 2) := by decide +kernel
theorem dX2_minusYears_17 : decode cX2_minusYears 17 = .ok (.aload_n 0, 1) := by decide +kernel
theorem dX2_minusYears_18 : decode cX2_minusYears 18 = .ok (.getfield 25, 3) := by decide +kernel
theorem dX2_minusYears_21 : decode cX2_minusYears 21 = .ok (.aload 4, 2) := by decide +kernel
theorem dX2_minusYears_23 : decode cX2_minusYears 23 = .ok (.getfield 55, 3) := by decide +kernel
theorem dX2_minusYears_26 : decode cX2_minusYears 26 = .ok (.i2l, 1) := by decide +kernel
theorem dX2_minusYears_27 : decode cX2_minusYears 27 = .ok (.lload 5, 2) := by decide +kernel
theorem dX2_minusYears_29 : decode cX2_minusYears 29 = .ok (.lsub, 1) := by decide +kernel
theorem dX2_minusYears_30 : decode cX2_minusYears 30 = .ok (.aload 4, 2) := by decide +kernel
theorem dX2_minusYears_32 : decode cX2_minusYears 32 = .ok (.getfield 59, 3) := by decide +kernel
theorem dX2_minusYears_35 : decode cX2_minusYears 35 = .ok (.i2l, 1) := by decide +kernel
theorem dX2_minusYears_36 : decode cX2_minusYears 36 = .ok (.aload 4, 2) := by decide +kernel
theorem dX2_minusYears_38 : decode cX2_minusYears 38 = .ok (.getfield 62, 3) := by decide +kernel
theorem dX2_minusYears_41 : decode cX2_minusYears 41 = .ok (.i2l, 1) := by decide +kernel
theorem dX2_minusYears_42 : decode cX2_minusYears 42 = .ok (.invokevirtual 41, 3) := by decide +kernel
theorem dX2_minusYears_45 : decode cX2_minusYears 45 = .ok (.invokevirtual 45, 3) := by decide +kernel
theorem dX2_minusYears_48 : decode cX2_minusYears 48 = .ok (.ireturn, 1) := by decide +kernel
theorem dX2_minusMonths_0 : decode cX2_minusMonths 0 = .ok (.aload_n 0, 1) := by decide +kernel
theorem dX2_minusMonths_1 : decode cX2_minusMonths 1 = .ok (.iload_n 1, 1) := by decide +kernel
theorem dX2_minusMonths_2 : decode cX2_minusMonths 2 = .ok (.invokevirtual 37, 3) := by decide +kernel
theorem dX2_minusMonths_5 : decode cX2_minusMonths 5 = .ok (.astore 4, 2) := by decide +kernel
theorem dX2_minusMonths_7 : decode cX2_minusMonths 7 = .ok (.iload_n 2, 1) := by decide +kernel
theorem dX2_minusMonths_8 : decode cX2_minusMonths 8 = .ok (.iload_n 3, 1) := by decide +kernel
theorem dX2_minusMonths_9 : decode cX2_minusMonths 9 = .ok (.invokestatic 69, 3) := by decide +kernel
theorem dX2_minusMonths_12 : decode cX2_minusMonths 12 = .ok (.lstore 5, 2) := by decide +kernel
theorem dX2_minusMonths_14 : decode cX2_minusMonths 14 = .ok (.aload_n 0, 1) := by decide +kernel
theorem dX2_minusMonths_15 : decode cX2_minusMonths 15 = .ok (.aload 4, 2) := by decide +kernel
theorem dX2_minusMonths_17 : decode cX2_minusMonths 17 = .ok (.aload_n 0, 1) := by decide +kernel
theorem dX2_minusMonths_18 : decode cX2_minusMonths 18 = .ok (.getfield 25, 3) := by decide +kernel
theorem dX2_minusMonths_21 : decode cX2_minusMonths 21 = .ok (.aload 4, 2) := by decide +kernel
theorem dX2_minusMonths_23 : decode cX2_minusMonths 23 = .ok (.getfield 55, 3) := by decide +kernel
theorem dX2_minusMonths_26 : decode cX2_minusMonths 26 = .ok (.i2l, 1) := by decide +kernel
theorem dX2_minusMonths_27 : decode cX2_minusMonths 27 = .ok (.aload 4, 2) := by decide +kernel
theorem dX2_minusMonths_29 : decode cX2_minusMonths 29 = .ok (.getfield 59, 3) := by decide +kernel
theorem dX2_minusMonths_32 : decode cX2_minusMonths 32 = .ok (.i2l, 1) := by decide +kernel
theorem dX2_minusMonths_33 : decode cX2_minusMonths 33 = .ok (.lload 5, 2) := by decide +kernel
theorem dX2_minusMonths_35 : decode cX2_minusMonths 35 = .ok (.lsub, 1) := by decide +kernel
theorem dX2_minusMonths_36 : decode cX2_minusMonths 36 = .ok (.aload 4, 2) := by decide +kernel
theorem dX2_minusMonths_38 : decode cX2_minusMonths 38 = .ok (.getfield 62, 3) := by decide +kernel
theorem dX2_minusMonths_41 : decode cX2_minusMonths 41 = .ok (.i2l, 1) := by decide +kernel
theorem dX2_minusMonths_42 : decode cX2_minusMonths 42 = .ok (.invokevirtual 41, 3) := by decide +kernel
theorem dX2_minusMonths_45 : decode cX2_minusMonths 45 = .ok (.invokevirtual 45, 3) := by decide +kernel
theorem dX2_minusMonths_48 : decode cX2_minusMonths 48 = .ok (.ireturn, 1) := by decide +kernel
theorem dX2_minusDays_0 : decode cX2_minusDays 0 = .ok (.aload_n 0, 1) := by decide +kernel
theorem dX2_minusDays_1 : decode cX2_minusDays 1 = .ok (.iload_n 1, 1) := by decide +kernel
theorem dX2_minusDays_2 : decode cX2_minusDays 2 = .ok (.invokevirtual 37, 3) := by decide +kernel
theorem dX2_minusDays_5 : decode cX2_minusDays 5 = .ok (.astore 4, 2) := by decide +kernel
theorem dX2_minusDays_7 : decode cX2_minusDays 7 = .ok (.iload_n 2, 1) := by decide +kernel
theorem dX2_minusDays_8 : decode cX2_minusDays 8 = .ok (.iload_n 3, 1) := by decide +kernel
theorem dX2_minusDays_9 : decode cX2_minusDays 9 = .ok (.invokestatic 69, 3) := by decide +kernel
theorem dX2_minusDays_12 : decode cX2_minusDays 12 = .ok (.lstore 5, 2) := by decide +kernel
theorem dX2_minusDays_14 : decode cX2_minusDays 14 = .ok (.aload_n 0, 1) := by decide +kernel
theorem dX2_minusDays_15 : decode cX2_minusDays 15 = .ok (.aload 4, 2) := by decide +kernel
theorem dX2_minusDays_17 : decode cX2_minusDays 17 = .ok (.aload_n 0, 1) := by decide +kernel
theorem dX2_minusDays_18 : decode cX2_minusDays 18 = .ok (.getfield 25, 3) := by decide +kernel
theorem dX2_minusDays_21 : decode cX2_minusDays 21 = .ok (.aload 4, 2) := by decide +kernel
theorem dX2_minusDays_23 : decode cX2_minusDays 23 = .ok (.getfield 55, 3) := by decide +kernel
theorem dX2_minusDays_26 : decode cX2_minusDays 26 = .ok (.i2l, 1) := by decide +kernel
theorem dX2_minusDays_27 : decode cX2_minusDays 27 = .ok (.aload 4, 2) := by decide +kernel
theorem dX2_minusDays_29 : decode cX2_minusDays 29 = .ok (.getfield 59, 3) := by decide +kernel
theorem dX2_minusDays_32 : decode cX2_minusDays 32 = .ok (.i2l, 1) := by decide +kernel
theorem dX2_minusDays_33 : decode cX2_minusDays 33 = .ok (.aload 4, 2) := by decide +kernel
theorem dX2_minusDays_35 : decode cX2_minusDays 35 = .ok (.getfield 62, 3) := by decide +kernel
theorem dX2_minusDays_38 : decode cX2_minusDays 38 = .ok (.i2l, 1) := by decide +kernel
theorem dX2_minusDays_39 : decode cX2_minusDays 39 = .ok (.lload 5, 2) := by decide +kernel
theorem dX2_minusDays_41 : decode cX2_minusDays 41 = .ok (.lsub, 1) := by decide +kernel
theorem dX2_minusDays_42 : decode cX2_minusDays 42 = .ok (.invokevirtual 41, 3) := by decide +kernel
theorem dX2_minusDays_45 : decode cX2_minusDays 45 = .ok (.invokevirtual 45, 3) := by decide +kernel
theorem dX2_minusDays_48 : decode cX2_minusDays 48 = .ok (.ireturn, 1) := by decide +kernel
theorem dX2_plus_0 : decode cX2_plus 0 = .ok (.aload_n 0, 1) := by decide +kernel
theorem dX2_plus_1 : decode cX2_plus 1 = .ok (.iload_n 1, 1) := by decide +kernel
theorem dX2_plus_2 : decode cX2_plus 2 = .ok (.invokevirtual 37, 3) := by decide +kernel
theorem dX2_plus_5 : decode cX2_plus 5 = .ok (.astore_n 3, 1) := by decide +kernel
theorem dX2_plus_6 : decode cX2_plus 6 = .ok (.aload_n 0, 1) := by decide +kernel
theorem dX2_plus_7 : decode cX2_plus 7 = .ok (.aload_n 3, 1) := by decide +kernel
theorem dX2_plus_8 : decode cX2_plus 8 = .ok (.aload_n 0, 1) := by decide +kernel
theorem dX2_plus_9 : decode cX2_plus 9 = .ok (.getfield 25, 3) := by decide +kernel
theorem dX2_plus_12 : decode cX2_plus 12 = .ok (.aload_n 3, 1) := by decide +kernel
theorem dX2_plus_13 : decode cX2_plus 13 = .ok (.aload_n 0, 1) := by decide +kernel
theorem dX2_plus_14 : decode cX2_plus 14 = .ok (.iload_n 2, 1) := by decide +kernel
theorem dX2_plus_15 : decode cX2_plus 15 = .ok (.invokevirtual 37, 3) := by decide +kernel
theorem dX2_plus_18 : decode cX2_plus 18 = .ok (.invokevirtual 73, 3) := by decide +kernel
theorem dX2_plus_21 : decode cX2_plus 21 = .ok (.invokevirtual 45, 3) := by decide +kernel
theorem dX2_plus_24 : decode cX2_plus 24 = .ok (.ireturn, 1) := by decide +kernel
theorem dX2_minus_0 : decode cX2_minus 0 = .ok (.aload_n 0, 1) := by decide +kernel
theorem dX2_minus_1 : decode cX2_minus 1 = .ok (.iload_n 1, 1) := by decide +kernel
theorem dX2_minus_2 : decode cX2_minus 2 = .ok (.invokevirtual 37, 3) := by decide +kernel
theorem dX2_minus_5 : decode cX2_minus 5 = .ok (.astore_n 3, 1) := by decide +kernel
theorem dX2_minus_6 : decode cX2_minus 6 = .ok (.aload_n 0, 1) := by decide +kernel
theorem dX2_minus_7 : decode cX2_minus 7 = .ok (.aload_n 3, 1) := by decide +kernel
theorem dX2_minus_8 : decode cX2_minus 8 = .ok (.aload_n 0, 1) := by decide +kernel
theorem dX2_minus_9 : decode cX2_minus 9 = .ok (.getfield 25, 3) := by decide +kernel
theorem dX2_minus_12 : decode cX2_minus 12 = .ok (.aload_n 3, 1) := by decide +kernel
theorem dX2_minus_13 : decode cX2_minus 13 = .ok (.aload_n 0, 1) := by decide +kernel
theorem dX2_minus_14 : decode cX2_minus 14 = .ok (.iload_n 2, 1) := by decide +kernel
theorem dX2_minus_15 : decode cX2_minus 15 = .ok (.invokevirtual 37, 3) := by decide +kernel
theorem dX2_minus_18 : decode cX2_minus 18 = .ok (.invokevirtual 77, 3) := by decide +kernel
theorem dX2_minus_21 : decode cX2_minus 21 = .ok (.invokevirtual 45, 3) := by decide +kernel
theorem dX2_minus_24 : decode cX2_minus 24 = .ok (.ireturn, 1) := by decide +kernel
theorem dX2_multipliedBy_0 : decode cX2_multipliedBy 0 = .ok (.aload_n 0, 1) := by decide +kernel
theorem dX2_multipliedBy_1 : decode cX2_multipliedBy 1 = .ok (.iload_n 1, 1) := by decide +kernel
theorem dX2_multipliedBy_2 : decode cX2_multipliedBy 2 = .ok (.invokevirtual 37, 3) := by decide +kernel
theorem dX2_multipliedBy_5 : decode cX2_multipliedBy 5 = .ok (.astore_n 3, 1) := by decide +kernel
theorem dX2_multipliedBy_6 : decode cX2_multipliedBy 6 = .ok (.aload_n 0, 1) := by decide +kernel
theorem dX2_multipliedBy_7 : decode cX2_multipliedBy 7 = .ok (.aload_n 3, 1) := by decide +kernel
theorem dX2_multipliedBy_8 : decode cX2_multipliedBy 8 = .ok (.aload_n 0, 1) := by decide +kernel
theorem dX2_multipliedBy_9 : decode cX2_multipliedBy 9 = .ok (.getfield 25, 3) := by decide +kernel
theorem dX2_multipliedBy_12 : decode cX2_multipliedBy 12 = .ok (.aload_n 3, 1) := by decide +kernel
theorem dX2_multipliedBy_13 : decode cX2_multipliedBy 13 = .ok (.iload_n 2, 1) := by decide +kernel
theorem dX2_multipliedBy_14 : decode cX2_multipliedBy 14 = .ok (.i2l, 1) := by decide +kernel
theorem dX2_multipliedBy_15 : decode cX2_multipliedBy 15 = .ok (.invokevirtual 80, 3) := by decide +kernel
theorem dX2_multipliedBy_18 : decode cX2_multipliedBy 18 = .ok (.invokevirtual 45, 3) := by decide +kernel
theorem dX2_multipliedBy_21 : decode cX2_multipliedBy 21 = .ok (.ireturn, 1) := by decide +kernel
theorem dX2_negated_0 : decode cX2_negated 0 = .ok (.aload_n 0, 1) := by decide +kernel
theorem dX2_negated_1 : decode cX2_negated 1 = .ok (.iload_n 1, 1) := by decide +kernel
theorem dX2_negated_2 : decode cX2_negated 2 = .ok (.invokevirtual 37, 3) := by decide +kernel
theorem dX2_negated_5 : decode cX2_negated 5 = .ok (.astore_n 2, 1) := by decide +kernel
theorem dX2_negated_6 : decode cX2_negated 6 = .ok (.aload_n 0, 1) := by decide +kernel
theorem dX2_negated_7 : decode cX2_negated 7 = .ok (.aload_n 2, 1) := by decide +kernel
theorem dX2_negated_8 : decode cX2_negated 8 = .ok (.aload_n 0, 1) := by decide +kernel
theorem dX2_negated_9 : decode cX2_negated 9 = .ok (.getfield 25, 3) := by decide +kernel
theorem dX2_negated_12 : decode cX2_negated 12 = .ok (.aload_n 2, 1) := by decide +kernel
theorem dX2_negated_13 : decode cX2_negated 13 = .ok (.invokevirtual 84, 3) := by decide +kernel
theorem dX2_negated_16 : decode cX2_negated 16 = .ok (.invokevirtual 45, 3) := by decide +kernel
theorem dX2_negated_19 : decode cX2_negated 19 = .ok (.ireturn, 1) := by decide +kernel
theorem dX2_normalized_0 : decode cX2_normalized 0 = .ok (.aload_n 0, 1) := by decide +kernel
theorem dX2_normalized_1 : decode cX2_normalized 1 = .ok (.iload_n 1, 1) := by decide +kernel
theorem dX2_normalized_2 : decode cX2_normalized 2 = .ok (.invokevirtual 37, 3) := by decide +kernel
theorem dX2_normalized_5 : decode cX2_normalized 5 = .ok (.astore_n 2, 1) := by decide +kernel
theorem dX2_normalized_6 : decode cX2_normalized 6 = .ok (.aload_n 0, 1) := by decide +kernel
theorem dX2_normalized_7 : decode cX2_normalized 7 = .ok (.aload_n 2, 1) := by decide +kernel
theorem dX2_normalized_8 : decode cX2_normalized 8 = .ok (.aload_n 0, 1) := by decide +kernel
theorem dX2_normalized_9 : decode cX2_normalized 9 = .ok (.getfield 25, 3) := by decide +kernel
theorem dX2_normalized_12 : decode cX2_normalized 12 = .ok (.aload_n 2, 1) := by decide +kernel
theorem dX2_normalized_13 : decode cX2_normalized 13 = .ok (.invokevirtual 88, 3) := by decide +kernel
theorem dX2_normalized_16 : decode cX2_normalized 16 = .ok (.invokevirtual 45, 3) := by decide +kernel
theorem dX2_normalized_19 : decode cX2_normalized 19 = .ok (.ireturn, 1) := by decide +kernel
theorem dX2_lay_0 : decode cX2_lay 0 = .ok (.aload_n 0, 1) := by decide +kernel
theorem dX2_lay_1 : decode cX2_lay 1 = .ok (.iload_n 1, 1) := by decide +kernel
theorem dX2_lay_2 : decode cX2_lay 2 = .ok (.invokevirtual 37, 3) := by decide +kernel
theorem dX2_lay_5 : decode cX2_lay 5 = .ok (.astore_n 2, 1) := by decide +kernel
theorem dX2_lay_6 : decode cX2_lay 6 = .ok (.aload_n 0, 1) := by decide +kernel
theorem dX2_lay_7 : decode cX2_lay 7 = .ok (.getfield 91, 3) := by decide +kernel
theorem dX2_lay_10 : decode cX2_lay 10 = .ok (.bipush 8, 2) := by decide +kernel
theorem dX2_lay_12 : decode cX2_lay 12 = .ok (.if_icmp .lt 8, 3) := by decide +kernel
theorem dX2_lay_15 : decode cX2_lay 15 = .ok (.aload_n 0, 1) := by decide +kernel
theorem dX2_lay_16 : decode cX2_lay 16 = .ok (.invokevirtual 94, 3) := by decide +kernel
theorem dX2_lay_19 : decode cX2_lay 19 = .ok (.ireturn, 1) := by decide +kernel
theorem dX2_lay_20 : decode cX2_lay 20 = .ok (.aload_n 0, 1) := by decide +kernel
theorem dX2_lay_21 : decode cX2_lay 21 = .ok (.getfield 15, 3) := by decide +kernel
theorem dX2_lay_24 : decode cX2_lay 24 = .ok (.aload_n 0, 1) := by decide +kernel
theorem dX2_lay_25 : decode cX2_lay 25 = .ok (.getfield 91, 3) := by decide +kernel
theorem dX2_lay_28 : decode cX2_lay 28 = .ok (.aaload, 1) := by decide +kernel
theorem dX2_lay_29 : decode cX2_lay 29 = .ok (.aload_n 2, 1) := by decide +kernel
theorem dX2_lay_30 : decode cX2_lay 30 = .ok (.invokevirtual 65, 3) := by decide +kernel
theorem dX2_lay_33 : decode cX2_lay 33 = .ok (.aload_n 0, 1) := by decide +kernel
theorem dX2_lay_34 : decode cX2_lay 34 = .ok (.dup, 1) := by decide +kernel
theorem dX2_lay_35 : decode cX2_lay 35 = .ok (.getfield 91, 3) := by decide +kernel
theorem dX2_lay_38 : decode cX2_lay 38 = .ok (.iconst 1, 1) := by decide +kernel
theorem dX2_lay_39 : decode cX2_lay 39 = .ok (.iadd, 1) := by decide +kernel
theorem dX2_lay_40 : decode cX2_lay 40 = .ok (.putfield 91, 3) := by decide +kernel
theorem dX2_lay_43 : decode cX2_lay 43 = .ok (.aload_n 0, 1) := by decide +kernel
theorem dX2_lay_44 : decode cX2_lay 44 = .ok (.getfield 91, 3) := by decide +kernel
theorem dX2_lay_47 : decode cX2_lay 47 = .ok (.ireturn, 1) := by decide +kernel
theorem dX2_take_0 : decode cX2_take 0 = .ok (.aload_n 0, 1) := by decide +kernel
theorem dX2_take_1 : decode cX2_take 1 = .ok (.iload_n 1, 1) := by decide +kernel
theorem dX2_take_2 : decode cX2_take 2 = .ok (.invokevirtual 37, 3) := by decide +kernel
theorem dX2_take_5 : decode cX2_take 5 = .ok (.astore_n 2, 1) := by decide +kernel
theorem dX2_take_6 : decode cX2_take 6 = .ok (.aload_n 0, 1) := by decide +kernel
theorem dX2_take_7 : decode cX2_take 7 = .ok (.getfield 91, 3) := by decide +kernel
theorem dX2_take_10 : decode cX2_take 10 = .ok (.iconst 1, 1) := by decide +kernel
theorem dX2_take_11 : decode cX2_take 11 = .ok (.if_icmp .ge 8, 3) := by decide +kernel
theorem dX2_take_14 : decode cX2_take 14 = .ok (.aload_n 0, 1) := by decide +kernel
theorem dX2_take_15 : decode cX2_take 15 = .ok (.invokevirtual 94, 3) := by decide +kernel
theorem dX2_take_18 : decode cX2_take 18 = .ok (.ireturn, 1) := by decide +kernel
theorem dX2_take_19 : decode cX2_take 19 = .ok (.aload_n 0, 1) := by decide +kernel
theorem dX2_take_20 : decode cX2_take 20 = .ok (.dup, 1) := by decide +kernel
theorem dX2_take_21 : decode cX2_take 21 = .ok (.getfield 91, 3) := by decide +kernel
theorem dX2_take_24 : decode cX2_take 24 = .ok (.iconst 1, 1) := by decide +kernel
theorem dX2_take_25 : decode cX2_take 25 = .ok (.isub, 1) := by decide +kernel
theorem dX2_take_26 : decode cX2_take 26 = .ok (.putfield 91, 3) := by decide +kernel
theorem dX2_take_29 : decode cX2_take 29 = .ok (.aload_n 2, 1) := by decide +kernel
theorem dX2_take_30 : decode cX2_take 30 = .ok (.aload_n 0, 1) := by decide +kernel
theorem dX2_take_31 : decode cX2_take 31 = .ok (.getfield 15, 3) := by decide +kernel
theorem dX2_take_34 : decode cX2_take 34 = .ok (.aload_n 0, 1) := by decide +kernel
theorem dX2_take_35 : decode cX2_take 35 = .ok (.getfield 91, 3) := by decide +kernel
theorem dX2_take_38 : decode cX2_take 38 = .ok (.aaload, 1) := by decide +kernel
theorem dX2_take_39 : decode cX2_take 39 = .ok (.invokevirtual 65, 3) := by decide +kernel
theorem dX2_take_42 : decode cX2_take 42 = .ok (.aload_n 0, 1) := by decide +kernel
theorem dX2_take_43 : decode cX2_take 43 = .ok (.getfield 91, 3) := by decide +kernel
theorem dX2_take_46 : decode cX2_take 46 = .ok (.ireturn, 1) := by decide +kernel
theorem dX2_sum_0 : decode cX2_sum 0 = .ok (.aload_n 0, 1) := by decide +kernel
theorem dX2_sum_1 : decode cX2_sum 1 = .ok (.iload_n 1, 1) := by decide +kernel
theorem dX2_sum_2 : decode cX2_sum 2 = .ok (.invokevirtual 37, 3) := by decide +kernel
theorem dX2_sum_5 : decode cX2_sum 5 = .ok (.astore_n 2, 1) := by decide +kernel
theorem dX2_sum_6 : decode cX2_sum 6 = .ok (.aload_n 0, 1) := by decide +kernel
theorem dX2_sum_7 : decode cX2_sum 7 = .ok (.getfield 25, 3) := by decide +kernel
theorem dX2_sum_10 : decode cX2_sum 10 = .ok (.lconst 0, 1) := by decide +kernel
theorem dX2_sum_11 : decode cX2_sum 11 = .ok (.lconst 0, 1) := by decide +kernel
theorem dX2_sum_12 : decode cX2_sum 12 = .ok (.lconst 0, 1) := by decide +kernel
theorem dX2_sum_13 : decode cX2_sum 13 = .ok (.invokevirtual 41, 3) := by decide +kernel
theorem dX2_sum_16 : decode cX2_sum 16 = .ok (.istore_n 3, 1) := by decide +kernel
theorem dX2_sum_17 : decode cX2_sum 17 = .ok (.iconst 0, 1) := by decide +kernel
theorem dX2_sum_18 : decode cX2_sum 18 = .ok (.istore 4, 2) := by decide +kernel
theorem dX2_sum_20 : decode cX2_sum 20 = .ok (.iload 4, 2) := by decide +kernel
theorem dX2_sum_22 : decode cX2_sum 22 = .ok (.aload_n 0, 1) := by decide +kernel
theorem dX2_sum_23 : decode cX2_sum 23 = .ok (.getfield 91, 3) := by decide +kernel
theorem dX2_sum_26 : decode cX2_sum 26 = .ok (.if_icmp .ge 32, 3) := by decide +kernel
theorem dX2_sum_29 : decode cX2_sum 29 = .ok (.iload_n 3, 1) := by decide +kernel
theorem dX2_sum_30 : decode cX2_sum 30 = .ok (.ifCond .eq 28, 3) := by decide +kernel
theorem dX2_sum_33 : decode cX2_sum 33 = .ok (.aload_n 0, 1) := by decide +kernel
theorem dX2_sum_34 : decode cX2_sum 34 = .ok (.getfield 25, 3) := by decide +kernel
theorem dX2_sum_37 : decode cX2_sum 37 = .ok (.aload_n 0, 1) := by decide +kernel
theorem dX2_sum_38 : decode cX2_sum 38 = .ok (.getfield 25, 3) := by decide +kernel
theorem dX2_sum_41 : decode cX2_sum 41 = .ok (.aload_n 0, 1) := by decide +kernel
theorem dX2_sum_42 : decode cX2_sum 42 = .ok (.getfield 15, 3) := by decide +kernel
theorem dX2_sum_45 : decode cX2_sum 45 = .ok (.iload 4, 2) := by decide +kernel
theorem dX2_sum_47 : decode cX2_sum 47 = .ok (.aaload, 1) := by decide +kernel
theorem dX2_sum_48 : decode cX2_sum 48 = .ok (.invokevirtual 73, 3) := by decide +kernel
theorem dX2_sum_51 : decode cX2_sum 51 = .ok (.istore_n 3, 1) := by decide +kernel
theorem dX2_sum_52 : decode cX2_sum 52 = .ok (.iinc 4 1, 3) := by decide +kernel
theorem dX2_sum_55 : decode cX2_sum 55 = .ok (.goto (-35), 3) := by decide +kernel
theorem dX2_sum_58 : decode cX2_sum 58 = .ok (.aload_n 0, 1) := by decide +kernel
theorem dX2_sum_59 : decode cX2_sum 59 = .ok (.aload_n 2, 1) := by decide +kernel
theorem dX2_sum_60 : decode cX2_sum 60 = .ok (.iload_n 3, 1) := by decide +kernel
theorem dX2_sum_61 : decode cX2_sum 61 = .ok (.invokevirtual 45, 3) := by decide +kernel
theorem dX2_sum_64 : decode cX2_sum 64 = .ok (.ireturn, 1) := by decide +kernel
theorem dX2_piled_0 : decode cX2_piled 0 = .ok (.iload_n 1, 1) := by decide +kernel
theorem dX2_piled_1 : decode cX2_piled 1 = .ok (.ifCond .lt 11, 3) := by decide +kernel
theorem dX2_piled_4 : decode cX2_piled 4 = .ok (.iload_n 1, 1) := by decide +kernel
theorem dX2_piled_5 : decode cX2_piled 5 = .ok (.aload_n 0, 1) := by decide +kernel
theorem dX2_piled_6 : decode cX2_piled 6 = .ok (.getfield 91, 3) := by decide +kernel
theorem dX2_piled_9 : decode cX2_piled 9 = .ok (.if_icmp .lt 6, 3) := by decide +kernel
theorem dX2_piled_12 : decode cX2_piled 12 = .ok (.ldc 98, 2) := by decide +kernel
theorem dX2_piled_14 : decode cX2_piled 14 = .ok (.areturn, 1) := by decide +kernel
theorem dX2_piled_15 : decode cX2_piled 15 = .ok (.aload_n 0, 1) := by decide +kernel
theorem dX2_piled_16 : decode cX2_piled 16 = .ok (.getfield 15, 3) := by decide +kernel
theorem dX2_piled_19 : decode cX2_piled 19 = .ok (.iload_n 1, 1) := by decide +kernel
theorem dX2_piled_20 : decode cX2_piled 20 = .ok (.aaload, 1) := by decide +kernel
theorem dX2_piled_21 : decode cX2_piled 21 = .ok (.invokevirtual 100, 3) := by decide +kernel
theorem dX2_piled_24 : decode cX2_piled 24 = .ok (.areturn, 1) := by decide +kernel
theorem dX2_part_0 : decode cX2_part 0 = .ok (.aload_n 0, 1) := by decide +kernel
theorem dX2_part_1 : decode cX2_part 1 = .ok (.iload_n 1, 1) := by decide +kernel
theorem dX2_part_2 : decode cX2_part 2 = .ok (.invokevirtual 37, 3) := by decide +kernel
theorem dX2_part_5 : decode cX2_part 5 = .ok (.astore_n 3, 1) := by decide +kernel
theorem dX2_part_6 : decode cX2_part 6 = .ok (.iload_n 2, 1) := by decide +kernel
theorem dX2_part_7 : decode cX2_part 7 = .ok (.iconst 3, 1) := by decide +kernel
theorem dX2_part_8 : decode cX2_part 8 = .ok (.invokestatic 51, 3) := by decide +kernel
theorem dX2_part_11 : decode cX2_part 11 = .ok (.aload_n 3, 1) := by decide +kernel
theorem dX2_part_12 : decode cX2_part 12 = .ok (.iload_n 2, 1) := by decide +kernel
theorem dX2_part_13 : decode cX2_part 13 = .ok (.invokevirtual 104, 3) := by decide +kernel
theorem dX2_part_16 : decode cX2_part 16 = .ok (.ireturn, 1) := by decide +kernel
theorem dX2_total_0 : decode cX2_total 0 = .ok (.aload_n 0, 1) := by decide +kernel
theorem dX2_total_1 : decode cX2_total 1 = .ok (.iload_n 1, 1) := by decide +kernel
theorem dX2_total_2 : decode cX2_total 2 = .ok (.invokevirtual 37, 3) := by decide +kernel
theorem dX2_total_5 : decode cX2_total 5 = .ok (.invokevirtual 108, 3) := by decide +kernel
theorem dX2_total_8 : decode cX2_total 8 = .ok (.invokestatic 112, 3) := by decide +kernel
theorem dX2_total_11 : decode cX2_total 11 = .ok (.areturn, 1) := by decide +kernel
theorem dX2_isZero_0 : decode cX2_isZero 0 = .ok (.aload_n 0, 1) := by decide +kernel
theorem dX2_isZero_1 : decode cX2_isZero 1 = .ok (.iload_n 1, 1) := by decide +kernel
theorem dX2_isZero_2 : decode cX2_isZero 2 = .ok (.invokevirtual 37, 3) := by decide +kernel
theorem dX2_isZero_5 : decode cX2_isZero 5 = .ok (.invokevirtual 116, 3) := by decide +kernel
theorem dX2_isZero_8 : decode cX2_isZero 8 = .ok (.ireturn, 1) := by decide +kernel
theorem dX2_isNegative_0 : decode cX2_isNegative 0 = .ok (.aload_n 0, 1) := by decide +kernel
theorem dX2_isNegative_1 : decode cX2_isNegative 1 = .ok (.iload_n 1, 1) := by decide +kernel
theorem dX2_isNegative_2 : decode cX2_isNegative 2 = .ok (.invokevirtual 37, 3) := by decide +kernel
theorem dX2_isNegative_5 : decode cX2_isNegative 5 = .ok (.invokevirtual 120, 3) := by decide +kernel
theorem dX2_isNegative_8 : decode cX2_isNegative 8 = .ok (.ireturn, 1) := by decide +kernel
theorem dX2_areSame_0 : decode cX2_areSame 0 = .ok (.aload_n 0, 1) := by decide +kernel
theorem dX2_areSame_1 : decode cX2_areSame 1 = .ok (.iload_n 1, 1) := by decide +kernel
theorem dX2_areSame_2 : decode cX2_areSame 2 = .ok (.invokevirtual 37, 3) := by decide +kernel
theorem dX2_areSame_5 : decode cX2_areSame 5 = .ok (.aload_n 0, 1) := by decide +kernel
theorem dX2_areSame_6 : decode cX2_areSame 6 = .ok (.iload_n 2, 1) := by decide +kernel
theorem dX2_areSame_7 : decode cX2_areSame 7 = .ok (.invokevirtual 37, 3) := by decide +kernel
theorem dX2_areSame_10 : decode cX2_areSame 10 = .ok (.invokevirtual 123, 3) := by decide +kernel
theorem dX2_areSame_13 : decode cX2_areSame 13 = .ok (.ireturn, 1) := by decide +kernel
theorem dX2_areAlike_0 : decode cX2_areAlike 0 = .ok (.aload_n 0, 1) := by decide +kernel
theorem dX2_areAlike_1 : decode cX2_areAlike 1 = .ok (.iload_n 1, 1) := by decide +kernel
theorem dX2_areAlike_2 : decode cX2_areAlike 2 = .ok (.invokevirtual 37, 3) := by decide +kernel
theorem dX2_areAlike_5 : decode cX2_areAlike 5 = .ok (.aload_n 0, 1) := by decide +kernel
theorem dX2_areAlike_6 : decode cX2_areAlike 6 = .ok (.iload_n 2, 1) := by decide +kernel
theorem dX2_areAlike_7 : decode cX2_areAlike 7 = .ok (.invokevirtual 37, 3) := by decide +kernel
theorem dX2_areAlike_10 : decode cX2_areAlike 10 = .ok (.invokevirtual 126, 3) := by decide +kernel
theorem dX2_areAlike_13 : decode cX2_areAlike 13 = .ok (.ireturn, 1) := by decide +kernel
theorem dX2_text_0 : decode cX2_text 0 = .ok (.aload_n 0, 1) := by decide +kernel
theorem dX2_text_1 : decode cX2_text 1 = .ok (.iload_n 1, 1) := by decide +kernel
theorem dX2_text_2 : decode cX2_text 2 = .ok (.invokevirtual 37, 3) := by decide +kernel
theorem dX2_text_5 : decode cX2_text 5 = .ok (.invokevirtual 100, 3) := by decide +kernel
theorem dX2_text_8 : decode cX2_text 8 = .ok (.areturn, 1) := by decide +kernel
theorem dX2_times_0 : decode cX2_times 0 = .ok (.aload_n 0, 1) := by decide +kernel
theorem dX2_times_1 : decode cX2_times 1 = .ok (.aload_n 0, 1) := by decide +kernel
theorem dX2_times_2 : decode cX2_times 2 = .ok (.getfield 25, 3) := by decide +kernel
theorem dX2_times_5 : decode cX2_times 5 = .ok (.aload_n 0, 1) := by decide +kernel
theorem dX2_times_6 : decode cX2_times 6 = .ok (.iload_n 1, 1) := by decide +kernel
theorem dX2_times_7 : decode cX2_times 7 = .ok (.invokevirtual 37, 3) := by decide +kernel
theorem dX2_times_10 : decode cX2_times 10 = .ok (.iload_n 2, 1) := by decide +kernel
theorem dX2_times_11 : decode cX2_times 11 = .ok (.i2l, 1) := by decide +kernel
theorem dX2_times_12 : decode cX2_times 12 = .ok (.invokevirtual 80, 3) := by decide +kernel
theorem dX2_times_15 : decode cX2_times 15 = .ok (.invokevirtual 129, 3) := by decide +kernel
theorem dX2_times_18 : decode cX2_times 18 = .ok (.areturn, 1) := by decide +kernel
theorem dX2_added_0 : decode cX2_added 0 = .ok (.aload_n 0, 1) := by decide +kernel
theorem dX2_added_1 : decode cX2_added 1 = .ok (.iload_n 1, 1) := by decide +kernel
theorem dX2_added_2 : decode cX2_added 2 = .ok (.invokevirtual 37, 3) := by decide +kernel
theorem dX2_added_5 : decode cX2_added 5 = .ok (.astore_n 3, 1) := by decide +kernel
theorem dX2_added_6 : decode cX2_added 6 = .ok (.iload_n 2, 1) := by decide +kernel
theorem dX2_added_7 : decode cX2_added 7 = .ok (.ifCond .lt 9, 3) := by decide +kernel
theorem dX2_added_10 : decode cX2_added 10 = .ok (.iload_n 2, 1) := by decide +kernel
theorem dX2_added_11 : decode cX2_added 11 = .ok (.bipush 9, 2) := by decide +kernel
theorem dX2_added_13 : decode cX2_added 13 = .ok (.if_icmp .le 13, 3) := by decide +kernel
theorem dX2_added_16 : decode cX2_added 16 = .ok (.new 133, 3) := by decide +kernel
theorem dX2_added_19 : decode cX2_added 19 = .ok (.dup, 1) := by decide +kernel
theorem dX2_added_20 : decode cX2_added 20 = .ok (.ldc 135, 2) := by decide +kernel
theorem dX2_added_22 : decode cX2_added 22 = .ok (.invokespecial 137, 3) := by decide +kernel
theorem dX2_added_25 : decode cX2_added 25 = .ok (.athrow, 1) := by decide +kernel
theorem dX2_added_26 : decode cX2_added 26 = .ok (.aload_n 0, 1) := by decide +kernel
theorem dX2_added_27 : decode cX2_added 27 = .ok (.getfield 25, 3) := by decide +kernel
theorem dX2_added_30 : decode cX2_added 30 = .ok (.lconst 0, 1) := by decide +kernel
theorem dX2_added_31 : decode cX2_added 31 = .ok (.lconst 0, 1) := by decide +kernel
theorem dX2_added_32 : decode cX2_added 32 = .ok (.lconst 0, 1) := by decide +kernel
theorem dX2_added_33 : decode cX2_added 33 = .ok (.invokevirtual 41, 3) := by decide +kernel
theorem dX2_added_36 : decode cX2_added 36 = .ok (.istore 4, 2) := by decide +kernel
theorem dX2_added_38 : decode cX2_added 38 = .ok (.iconst 0, 1) := by decide +kernel
theorem dX2_added_39 : decode cX2_added 39 = .ok (.istore 5, 2) := by decide +kernel
theorem dX2_added_41 : decode cX2_added 41 = .ok (.iload 5, 2) := by decide +kernel
theorem dX2_added_43 : decode cX2_added 43 = .ok (.iload_n 2, 1) := by decide +kernel
theorem dX2_added_44 : decode cX2_added 44 = .ok (.if_icmp .ge 28, 3) := by decide +kernel
theorem dX2_added_47 : decode cX2_added 47 = .ok (.iload 4, 2) := by decide +kernel
theorem dX2_added_49 : decode cX2_added 49 = .ok (.ifCond .eq 23, 3) := by decide +kernel
theorem dX2_added_52 : decode cX2_added 52 = .ok (.aload_n 0, 1) := by decide +kernel
theorem dX2_added_53 : decode cX2_added 53 = .ok (.getfield 25, 3) := by decide +kernel
theorem dX2_added_56 : decode cX2_added 56 = .ok (.aload_n 0, 1) := by decide +kernel
theorem dX2_added_57 : decode cX2_added 57 = .ok (.getfield 25, 3) := by decide +kernel
theorem dX2_added_60 : decode cX2_added 60 = .ok (.aload_n 3, 1) := by decide +kernel
theorem dX2_added_61 : decode cX2_added 61 = .ok (.invokevirtual 73, 3) := by decide +kernel
theorem dX2_added_64 : decode cX2_added 64 = .ok (.istore 4, 2) := by decide +kernel
theorem dX2_added_66 : decode cX2_added 66 = .ok (.iinc 5 1, 3) := by decide +kernel
theorem dX2_added_69 : decode cX2_added 69 = .ok (.goto (-28), 3) := by decide +kernel
theorem dX2_added_72 : decode cX2_added 72 = .ok (.aload_n 0, 1) := by decide +kernel
theorem dX2_added_73 : decode cX2_added 73 = .ok (.iload 4, 2) := by decide +kernel
theorem dX2_added_75 : decode cX2_added 75 = .ok (.invokevirtual 129, 3) := by decide +kernel
theorem dX2_added_78 : decode cX2_added 78 = .ok (.areturn, 1) := by decide +kernel
theorem dX2_with_0 : decode cX2_with 0 = .ok (.aload_n 0, 1) := by decide +kernel
theorem dX2_with_1 : decode cX2_with 1 = .ok (.iload_n 1, 1) := by decide +kernel
theorem dX2_with_2 : decode cX2_with 2 = .ok (.invokevirtual 37, 3) := by decide +kernel
theorem dX2_with_5 : decode cX2_with 5 = .ok (.astore 4, 2) := by decide +kernel
theorem dX2_with_7 : decode cX2_with 7 = .ok (.aload_n 0, 1) := by decide +kernel
theorem dX2_with_8 : decode cX2_with 8 = .ok (.iload_n 2, 1) := by decide +kernel
theorem dX2_with_9 : decode cX2_with 9 = .ok (.invokevirtual 37, 3) := by decide +kernel
theorem dX2_with_12 : decode cX2_with 12 = .ok (.astore 5, 2) := by decide +kernel
theorem dX2_with_14 : decode cX2_with 14 = .ok (.iload_n 3, 1) := by decide +kernel
theorem dX2_with_15 : decode cX2_with 15 = .ok (.ifCond .eq 17, 3) := by decide +kernel
theorem dX2_with_18 : decode cX2_with 18 = .ok (.aload_n 0, 1) := by decide +kernel
theorem dX2_with_19 : decode cX2_with 19 = .ok (.getfield 25, 3) := by decide +kernel
theorem dX2_with_22 : decode cX2_with 22 = .ok (.aload 4, 2) := by decide +kernel
theorem dX2_with_24 : decode cX2_with 24 = .ok (.aload 5, 2) := by decide +kernel
theorem dX2_with_26 : decode cX2_with 26 = .ok (.invokevirtual 77, 3) := by decide +kernel
theorem dX2_with_29 : decode cX2_with 29 = .ok (.goto 14, 3) := by decide +kernel
theorem dX2_with_32 : decode cX2_with 32 = .ok (.aload_n 0, 1) := by decide +kernel
theorem dX2_with_33 : decode cX2_with 33 = .ok (.getfield 25, 3) := by decide +kernel
theorem dX2_with_36 : decode cX2_with 36 = .ok (.aload 4, 2) := by decide +kernel
theorem dX2_with_38 : decode cX2_with 38 = .ok (.aload 5, 2) := by decide +kernel
theorem dX2_with_40 : decode cX2_with 40 = .ok (.invokevirtual 73, 3) := by decide +kernel
theorem dX2_with_43 : decode cX2_with 43 = .ok (.istore 6, 2) := by decide +kernel
theorem dX2_with_45 : decode cX2_with 45 = .ok (.aload_n 0, 1) := by decide +kernel
theorem dX2_with_46 : decode cX2_with 46 = .ok (.iload 6, 2) := by decide +kernel
theorem dX2_with_48 : decode cX2_with 48 = .ok (.invokevirtual 129, 3) := by decide +kernel
theorem dX2_with_51 : decode cX2_with 51 = .ok (.areturn, 1) := by decide +kernel
theorem dX2_tidy_0 : decode cX2_tidy 0 = .ok (.aload_n 0, 1) := by decide +kernel
theorem dX2_tidy_1 : decode cX2_tidy 1 = .ok (.aload_n 0, 1) := by decide +kernel
theorem dX2_tidy_2 : decode cX2_tidy 2 = .ok (.getfield 25, 3) := by decide +kernel
theorem dX2_tidy_5 : decode cX2_tidy 5 = .ok (.aload_n 0, 1) := by decide +kernel
theorem dX2_tidy_6 : decode cX2_tidy 6 = .ok (.iload_n 1, 1) := by decide +kernel
theorem dX2_tidy_7 : decode cX2_tidy 7 = .ok (.invokevirtual 37, 3) := by decide +kernel
theorem dX2_tidy_10 : decode cX2_tidy 10 = .ok (.invokevirtual 88, 3) := by decide +kernel
theorem dX2_tidy_13 : decode cX2_tidy 13 = .ok (.invokevirtual 129, 3) := by decide +kernel
theorem dX2_tidy_16 : decode cX2_tidy 16 = .ok (.areturn, 1) := by decide +kernel
theorem dX2_opposite_0 : decode cX2_opposite 0 = .ok (.aload_n 0, 1) := by decide +kernel
theorem dX2_opposite_1 : decode cX2_opposite 1 = .ok (.aload_n 0, 1) := by decide +kernel
theorem dX2_opposite_2 : decode cX2_opposite 2 = .ok (.getfield 25, 3) := by decide +kernel
theorem dX2_opposite_5 : decode cX2_opposite 5 = .ok (.aload_n 0, 1) := by decide +kernel
theorem dX2_opposite_6 : decode cX2_opposite 6 = .ok (.iload_n 1, 1) := by decide +kernel
theorem dX2_opposite_7 : decode cX2_opposite 7 = .ok (.invokevirtual 37, 3) := by decide +kernel
theorem dX2_opposite_10 : decode cX2_opposite 10 = .ok (.invokevirtual 84, 3) := by decide +kernel
theorem dX2_opposite_13 : decode cX2_opposite 13 = .ok (.invokevirtual 129, 3) := by decide +kernel
theorem dX2_opposite_16 : decode cX2_opposite 16 = .ok (.areturn, 1) := by decide +kernel
theorem dX2_date_0 : decode cX2_date 0 = .ok (.aload_n 0, 1) := by decide +kernel
theorem dX2_date_1 : decode cX2_date 1 = .ok (.iload_n 1, 1) := by decide +kernel
theorem dX2_date_2 : decode cX2_date 2 = .ok (.invokevirtual 140, 3) := by decide +kernel
theorem dX2_date_5 : decode cX2_date 5 = .ok (.astore 5, 2) := by decide +kernel
theorem dX2_date_7 : decode cX2_date 7 = .ok (.iload_n 2, 1) := by decide +kernel
theorem dX2_date_8 : decode cX2_date 8 = .ok (.iload_n 3, 1) := by decide +kernel
theorem dX2_date_9 : decode cX2_date 9 = .ok (.iload 4, 2) := by decide +kernel
theorem dX2_date_11 : decode cX2_date 11 = .ok (.invokestatic 144, 3) := by decide +kernel
theorem dX2_date_14 : decode cX2_date 14 = .ok (.ifCond .ne 13, 3) := by decide +kernel
theorem dX2_date_17 : decode cX2_date 17 = .ok (.new 133, 3) := by decide +kernel
theorem dX2_date_20 : decode cX2_date 20 = .ok (.dup, 1) := by decide +kernel
theorem dX2_date_21 : decode cX2_date 21 = .ok (.ldc 148, 2) := by decide +kernel
theorem dX2_date_23 : decode cX2_date 23 = .ok (.invokespecial 137, 3) := by decide +kernel
theorem dX2_date_26 : decode cX2_date 26 = .ok (.athrow, 1) := by decide +kernel
theorem dX2_date_27 : decode cX2_date 27 = .ok (.aload_n 0, 1) := by decide +kernel
theorem dX2_date_28 : decode cX2_date 28 = .ok (.getfield 33, 3) := by decide +kernel
theorem dX2_date_31 : decode cX2_date 31 = .ok (.iload_n 2, 1) := by decide +kernel
theorem dX2_date_32 : decode cX2_date 32 = .ok (.iload_n 3, 1) := by decide +kernel
theorem dX2_date_33 : decode cX2_date 33 = .ok (.iload 4, 2) := by decide +kernel
theorem dX2_date_35 : decode cX2_date 35 = .ok (.invokevirtual 150, 3) := by decide +kernel
theorem dX2_date_38 : decode cX2_date 38 = .ok (.aload_n 0, 1) := by decide +kernel
theorem dX2_date_39 : decode cX2_date 39 = .ok (.aload 5, 2) := by decide +kernel
theorem dX2_date_41 : decode cX2_date 41 = .ok (.iconst 1, 1) := by decide +kernel
theorem dX2_date_42 : decode cX2_date 42 = .ok (.invokevirtual 153, 3) := by decide +kernel
theorem dX2_date_45 : decode cX2_date 45 = .ok (.ireturn, 1) := by decide +kernel
theorem dX2_copyDate_0 : decode cX2_copyDate 0 = .ok (.aload_n 0, 1) := by decide +kernel
theorem dX2_copyDate_1 : decode cX2_copyDate 1 = .ok (.iload_n 1, 1) := by decide +kernel
theorem dX2_copyDate_2 : decode cX2_copyDate 2 = .ok (.invokevirtual 140, 3) := by decide +kernel
theorem dX2_copyDate_5 : decode cX2_copyDate 5 = .ok (.astore_n 3, 1) := by decide +kernel
theorem dX2_copyDate_6 : decode cX2_copyDate 6 = .ok (.aload_n 0, 1) := by decide +kernel
theorem dX2_copyDate_7 : decode cX2_copyDate 7 = .ok (.getfield 33, 3) := by decide +kernel
theorem dX2_copyDate_10 : decode cX2_copyDate 10 = .ok (.aload_n 0, 1) := by decide +kernel
theorem dX2_copyDate_11 : decode cX2_copyDate 11 = .ok (.iload_n 2, 1) := by decide +kernel
theorem dX2_copyDate_12 : decode cX2_copyDate 12 = .ok (.invokevirtual 140, 3) := by decide +kernel
theorem dX2_copyDate_15 : decode cX2_copyDate 15 = .ok (.invokevirtual 157, 3) := by decide +kernel
theorem dX2_copyDate_18 : decode cX2_copyDate 18 = .ok (.aload_n 0, 1) := by decide +kernel
theorem dX2_copyDate_19 : decode cX2_copyDate 19 = .ok (.aload_n 3, 1) := by decide +kernel
theorem dX2_copyDate_20 : decode cX2_copyDate 20 = .ok (.iconst 1, 1) := by decide +kernel
theorem dX2_copyDate_21 : decode cX2_copyDate 21 = .ok (.invokevirtual 153, 3) := by decide +kernel
theorem dX2_copyDate_24 : decode cX2_copyDate 24 = .ok (.ireturn, 1) := by decide +kernel
theorem dX2_move_0 : decode cX2_move 0 = .ok (.aload_n 0, 1) := by decide +kernel
theorem dX2_move_1 : decode cX2_move 1 = .ok (.iload_n 1, 1) := by decide +kernel
theorem dX2_move_2 : decode cX2_move 2 = .ok (.invokevirtual 140, 3) := by decide +kernel
theorem dX2_move_5 : decode cX2_move 5 = .ok (.astore_n 3, 1) := by decide +kernel
theorem dX2_move_6 : decode cX2_move 6 = .ok (.aload_n 0, 1) := by decide +kernel
theorem dX2_move_7 : decode cX2_move 7 = .ok (.aload_n 3, 1) := by decide +kernel
theorem dX2_move_8 : decode cX2_move 8 = .ok (.aload_n 0, 1) := by decide +kernel
theorem dX2_move_9 : decode cX2_move 9 = .ok (.aload_n 3, 1) := by decide +kernel
theorem dX2_move_10 : decode cX2_move 10 = .ok (.aload_n 0, 1) := by decide +kernel
theorem dX2_move_11 : decode cX2_move 11 = .ok (.iload_n 2, 1) := by decide +kernel
theorem dX2_move_12 : decode cX2_move 12 = .ok (.invokevirtual 37, 3) := by decide +kernel
theorem dX2_move_15 : decode cX2_move 15 = .ok (.iconst 0, 1) := by decide +kernel
theorem dX2_move_16 : decode cX2_move 16 = .ok (.invokevirtual 161, 3) := by decide +kernel
theorem dX2_move_19 : decode cX2_move 19 = .ok (.invokevirtual 153, 3) := by decide +kernel
theorem dX2_move_22 : decode cX2_move 22 = .ok (.ireturn, 1) := by decide +kernel
theorem dX2_back_0 : decode cX2_back 0 = .ok (.aload_n 0, 1) := by decide +kernel
theorem dX2_back_1 : decode cX2_back 1 = .ok (.iload_n 1, 1) := by decide +kernel
theorem dX2_back_2 : decode cX2_back 2 = .ok (.invokevirtual 140, 3) := by decide +kernel
theorem dX2_back_5 : decode cX2_back 5 = .ok (.astore_n 3, 1) := by decide +kernel
theorem dX2_back_6 : decode cX2_back 6 = .ok (.aload_n 0, 1) := by decide +kernel
theorem dX2_back_7 : decode cX2_back 7 = .ok (.aload_n 3, 1) := by decide +kernel
theorem dX2_back_8 : decode cX2_back 8 = .ok (.aload_n 0, 1) := by decide +kernel
theorem dX2_back_9 : decode cX2_back 9 = .ok (.aload_n 3, 1) := by decide +kernel
theorem dX2_back_10 : decode cX2_back 10 = .ok (.aload_n 0, 1) := by decide +kernel
theorem dX2_back_11 : decode cX2_back 11 = .ok (.iload_n 2, 1) := by decide +kernel
theorem dX2_back_12 : decode cX2_back 12 = .ok (.invokevirtual 37, 3) := by decide +kernel
theorem dX2_back_15 : decode cX2_back 15 = .ok (.iconst 1, 1) := by decide +kernel
theorem dX2_back_16 : decode cX2_back 16 = .ok (.invokevirtual 161, 3) := by decide +kernel
theorem dX2_back_19 : decode cX2_back 19 = .ok (.invokevirtual 153, 3) := by decide +kernel
theorem dX2_back_22 : decode cX2_back 22 = .ok (.ireturn, 1) := by decide +kernel
theorem dX2_walk_0 : decode cX2_walk 0 = .ok (.aload_n 0, 1) := by decide +kernel
theorem dX2_walk_1 : decode cX2_walk 1 = .ok (.iload_n 1, 1) := by decide +kernel
theorem dX2_walk_2 : decode cX2_walk 2 = .ok (.invokevirtual 140, 3) := by decide +kernel
theorem dX2_walk_5 : decode cX2_walk 5 = .ok (.astore 4, 2) := by decide +kernel
theorem dX2_walk_7 : decode cX2_walk 7 = .ok (.aload_n 0, 1) := by decide +kernel
theorem dX2_walk_8 : decode cX2_walk 8 = .ok (.iload_n 2, 1) := by decide +kernel
theorem dX2_walk_9 : decode cX2_walk 9 = .ok (.invokevirtual 37, 3) := by decide +kernel
theorem dX2_walk_12 : decode cX2_walk 12 = .ok (.astore 5, 2) := by decide +kernel
theorem dX2_walk_14 : decode cX2_walk 14 = .ok (.iload_n 3, 1) := by decide +kernel
theorem dX2_walk_15 : decode cX2_walk 15 = .ok (.iconst 1, 1) := by decide +kernel
theorem dX2_walk_16 : decode cX2_walk 16 = .ok (.if_icmp .lt 9, 3) := by decide +kernel
theorem dX2_walk_19 : decode cX2_walk 19 = .ok (.iload_n 3, 1) := by decide +kernel
theorem dX2_walk_20 : decode cX2_walk 20 = .ok (.bipush 12, 2) := by decide +kernel
theorem dX2_walk_22 : decode cX2_walk 22 = .ok (.if_icmp .le 13, 3) := by decide +kernel
theorem dX2_walk_25 : decode cX2_walk 25 = .ok (.new 133, 3) := by decide +kernel
theorem dX2_walk_28 : decode cX2_walk 28 = .ok (.dup, 1) := by decide +kernel
theorem dX2_walk_29 : decode cX2_walk 29 = .ok (.ldc 165, 2) := by decide +kernel
theorem dX2_walk_31 : decode cX2_walk 31 = .ok (.invokespecial 137, 3) := by decide +kernel
theorem dX2_walk_34 : decode cX2_walk 34 = .ok (.athrow, 1) := by decide +kernel
theorem dX2_walk_35 : decode cX2_walk 35 = .ok (.iconst 0, 1) := by decide +kernel
theorem dX2_walk_36 : decode cX2_walk 36 = .ok (.istore 6, 2) := by decide +kernel
theorem dX2_walk_38 : decode cX2_walk 38 = .ok (.iload 6, 2) := by decide +kernel
theorem dX2_walk_40 : decode cX2_walk 40 = .ok (.iload_n 3, 1) := by decide +kernel
theorem dX2_walk_41 : decode cX2_walk 41 = .ok (.if_icmp .ge 30, 3) := by decide +kernel
theorem dX2_walk_44 : decode cX2_walk 44 = .ok (.aload_n 0, 1) := by decide +kernel
theorem dX2_walk_45 : decode cX2_walk 45 = .ok (.aload 4, 2) := by decide +kernel
theorem dX2_walk_47 : decode cX2_walk 47 = .ok (.aload 5, 2) := by decide +kernel
theorem dX2_walk_49 : decode cX2_walk 49 = .ok (.iconst 0, 1) := by decide +kernel
theorem dX2_walk_50 : decode cX2_walk 50 = .ok (.invokevirtual 161, 3) := by decide +kernel
theorem dX2_walk_53 : decode cX2_walk 53 = .ok (.ifCond .eq 18, 3) := by decide +kernel
theorem dX2_walk_56 : decode cX2_walk 56 = .ok (.aload 4, 2) := by decide +kernel
theorem dX2_walk_58 : decode cX2_walk 58 = .ok (.aload_n 0, 1) := by decide +kernel
theorem dX2_walk_59 : decode cX2_walk 59 = .ok (.getfield 33, 3) := by decide +kernel
theorem dX2_walk_62 : decode cX2_walk 62 = .ok (.invokevirtual 157, 3) := by decide +kernel
theorem dX2_walk_65 : decode cX2_walk 65 = .ok (.iinc 6 1, 3) := by decide +kernel
theorem dX2_walk_68 : decode cX2_walk 68 = .ok (.goto (-30), 3) := by decide +kernel
theorem dX2_walk_71 : decode cX2_walk 71 = .ok (.iload 6, 2) := by decide +kernel
theorem dX2_walk_73 : decode cX2_walk 73 = .ok (.ireturn, 1) := by decide +kernel
theorem dX2_between_0 : decode cX2_between 0 = .ok (.aload_n 0, 1) := by decide +kernel
theorem dX2_between_1 : decode cX2_between 1 = .ok (.iload_n 1, 1) := by decide +kernel
theorem dX2_between_2 : decode cX2_between 2 = .ok (.iload_n 2, 1) := by decide +kernel
theorem dX2_between_3 : decode cX2_between 3 = .ok (.iload_n 3, 1) := by decide +kernel
theorem dX2_between_4 : decode cX2_between 4 = .ok (.invokevirtual 167, 3) := by decide +kernel
theorem dX2_between_7 : decode cX2_between 7 = .ok (.ireturn, 1) := by decide +kernel
theorem dX2_until_0 : decode cX2_until 0 = .ok (.aload_n 0, 1) := by decide +kernel
theorem dX2_until_1 : decode cX2_until 1 = .ok (.iload_n 1, 1) := by decide +kernel
theorem dX2_until_2 : decode cX2_until 2 = .ok (.iload_n 2, 1) := by decide +kernel
theorem dX2_until_3 : decode cX2_until 3 = .ok (.iload_n 3, 1) := by decide +kernel
theorem dX2_until_4 : decode cX2_until 4 = .ok (.invokevirtual 167, 3) := by decide +kernel
theorem dX2_until_7 : decode cX2_until 7 = .ok (.ireturn, 1) := by decide +kernel
theorem dX2_ofDate_0 : decode cX2_ofDate 0 = .ok (.aload_n 0, 1) := by decide +kernel
theorem dX2_ofDate_1 : decode cX2_ofDate 1 = .ok (.iload_n 1, 1) := by decide +kernel
theorem dX2_ofDate_2 : decode cX2_ofDate 2 = .ok (.invokevirtual 140, 3) := by decide +kernel
theorem dX2_ofDate_5 : decode cX2_ofDate 5 = .ok (.astore_n 3, 1) := by decide +kernel
theorem dX2_ofDate_6 : decode cX2_ofDate 6 = .ok (.iload_n 2, 1) := by decide +kernel
theorem dX2_ofDate_7 : decode cX2_ofDate 7 = .ok (.iconst 4, 1) := by decide +kernel
theorem dX2_ofDate_8 : decode cX2_ofDate 8 = .ok (.invokestatic 51, 3) := by decide +kernel
theorem dX2_ofDate_11 : decode cX2_ofDate 11 = .ok (.aload_n 3, 1) := by decide +kernel
theorem dX2_ofDate_12 : decode cX2_ofDate 12 = .ok (.iload_n 2, 1) := by decide +kernel
theorem dX2_ofDate_13 : decode cX2_ofDate 13 = .ok (.invokevirtual 171, 3) := by decide +kernel
theorem dX2_ofDate_16 : decode cX2_ofDate 16 = .ok (.ireturn, 1) := by decide +kernel
theorem dX2_dateText_0 : decode cX2_dateText 0 = .ok (.aload_n 0, 1) := by decide +kernel
theorem dX2_dateText_1 : decode cX2_dateText 1 = .ok (.iload_n 1, 1) := by decide +kernel
theorem dX2_dateText_2 : decode cX2_dateText 2 = .ok (.invokevirtual 140, 3) := by decide +kernel
theorem dX2_dateText_5 : decode cX2_dateText 5 = .ok (.invokevirtual 172, 3) := by decide +kernel
theorem dX2_dateText_8 : decode cX2_dateText 8 = .ok (.areturn, 1) := by decide +kernel
theorem dX2_moved_0 : decode cX2_moved 0 = .ok (.aload_n 0, 1) := by decide +kernel
theorem dX2_moved_1 : decode cX2_moved 1 = .ok (.iload_n 1, 1) := by decide +kernel
theorem dX2_moved_2 : decode cX2_moved 2 = .ok (.invokevirtual 140, 3) := by decide +kernel
theorem dX2_moved_5 : decode cX2_moved 5 = .ok (.astore 4, 2) := by decide +kernel
theorem dX2_moved_7 : decode cX2_moved 7 = .ok (.aload_n 0, 1) := by decide +kernel
theorem dX2_moved_8 : decode cX2_moved 8 = .ok (.aload 4, 2) := by decide +kernel
theorem dX2_moved_10 : decode cX2_moved 10 = .ok (.aload_n 0, 1) := by decide +kernel
theorem dX2_moved_11 : decode cX2_moved 11 = .ok (.iload_n 2, 1) := by decide +kernel
theorem dX2_moved_12 : decode cX2_moved 12 = .ok (.invokevirtual 37, 3) := by decide +kernel
theorem dX2_moved_15 : decode cX2_moved 15 = .ok (.iload_n 3, 1) := by decide +kernel
theorem dX2_moved_16 : decode cX2_moved 16 = .ok (.invokevirtual 161, 3) := by decide +kernel
theorem dX2_moved_19 : decode cX2_moved 19 = .ok (.ifCond .eq 13, 3) := by decide +kernel
theorem dX2_moved_22 : decode cX2_moved 22 = .ok (.aload_n 0, 1) := by decide +kernel
theorem dX2_moved_23 : decode cX2_moved 23 = .ok (.getfield 33, 3) := by decide +kernel
theorem dX2_moved_26 : decode cX2_moved 26 = .ok (.invokevirtual 172, 3) := by decide +kernel
theorem dX2_moved_29 : decode cX2_moved 29 = .ok (.goto 5, 3) := by decide +kernel
theorem dX2_moved_32 : decode cX2_moved 32 = .ok (.ldc 98, 2) := by decide +kernel
theorem dX2_moved_34 : decode cX2_moved 34 = .ok (.areturn, 1) := by decide +kernel
theorem dX2_apart_0 : decode cX2_apart 0 = .ok (.aload_n 0, 1) := by decide +kernel
theorem dX2_apart_1 : decode cX2_apart 1 = .ok (.iload_n 1, 1) := by decide +kernel
theorem dX2_apart_2 : decode cX2_apart 2 = .ok (.invokevirtual 140, 3) := by decide +kernel
theorem dX2_apart_5 : decode cX2_apart 5 = .ok (.astore_n 3, 1) := by decide +kernel
theorem dX2_apart_6 : decode cX2_apart 6 = .ok (.aload_n 0, 1) := by decide +kernel
theorem dX2_apart_7 : decode cX2_apart 7 = .ok (.aload_n 0, 1) := by decide +kernel
theorem dX2_apart_8 : decode cX2_apart 8 = .ok (.getfield 25, 3) := by decide +kernel
theorem dX2_apart_11 : decode cX2_apart 11 = .ok (.aload_n 3, 1) := by decide +kernel
theorem dX2_apart_12 : decode cX2_apart 12 = .ok (.aload_n 0, 1) := by decide +kernel
theorem dX2_apart_13 : decode cX2_apart 13 = .ok (.iload_n 2, 1) := by decide +kernel
theorem dX2_apart_14 : decode cX2_apart 14 = .ok (.invokevirtual 140, 3) := by decide +kernel
theorem dX2_apart_17 : decode cX2_apart 17 = .ok (.invokevirtual 173, 3) := by decide +kernel
theorem dX2_apart_20 : decode cX2_apart 20 = .ok (.invokevirtual 129, 3) := by decide +kernel
theorem dX2_apart_23 : decode cX2_apart 23 = .ok (.areturn, 1) := by decide +kernel
theorem dX2_isToldBack_0 : decode cX2_isToldBack 0 = .ok (.aload_n 0, 1) := by decide +kernel
theorem dX2_isToldBack_1 : decode cX2_isToldBack 1 = .ok (.iload_n 1, 1) := by decide +kernel
theorem dX2_isToldBack_2 : decode cX2_isToldBack 2 = .ok (.invokevirtual 140, 3) := by decide +kernel
theorem dX2_isToldBack_5 : decode cX2_isToldBack 5 = .ok (.astore_n 3, 1) := by decide +kernel
theorem dX2_isToldBack_6 : decode cX2_isToldBack 6 = .ok (.aload_n 0, 1) := by decide +kernel
theorem dX2_isToldBack_7 : decode cX2_isToldBack 7 = .ok (.iload_n 2, 1) := by decide +kernel
theorem dX2_isToldBack_8 : decode cX2_isToldBack 8 = .ok (.invokevirtual 140, 3) := by decide +kernel
theorem dX2_isToldBack_11 : decode cX2_isToldBack 11 = .ok (.astore 4, 2) := by decide +kernel
theorem dX2_isToldBack_13 : decode cX2_isToldBack 13 = .ok (.aload_n 0, 1) := by decide +kernel
theorem dX2_isToldBack_14 : decode cX2_isToldBack 14 = .ok (.getfield 25, 3) := by decide +kernel
theorem dX2_isToldBack_17 : decode cX2_isToldBack 17 = .ok (.aload_n 3, 1) := by decide +kernel
theorem dX2_isToldBack_18 : decode cX2_isToldBack 18 = .ok (.aload 4, 2) := by decide +kernel
theorem dX2_isToldBack_20 : decode cX2_isToldBack 20 = .ok (.invokevirtual 173, 3) := by decide +kernel
theorem dX2_isToldBack_23 : decode cX2_isToldBack 23 = .ok (.ifCond .eq 21, 3) := by decide +kernel
theorem dX2_isToldBack_26 : decode cX2_isToldBack 26 = .ok (.aload_n 0, 1) := by decide +kernel
theorem dX2_isToldBack_27 : decode cX2_isToldBack 27 = .ok (.aload_n 3, 1) := by decide +kernel
theorem dX2_isToldBack_28 : decode cX2_isToldBack 28 = .ok (.aload_n 0, 1) := by decide +kernel
theorem dX2_isToldBack_29 : decode cX2_isToldBack 29 = .ok (.getfield 25, 3) := by decide +kernel
theorem dX2_isToldBack_32 : decode cX2_isToldBack 32 = .ok (.aload 4, 2) := by decide +kernel
theorem dX2_isToldBack_34 : decode cX2_isToldBack 34 = .ok (.invokevirtual 177, 3) := by decide +kernel
theorem dX2_isToldBack_37 : decode cX2_isToldBack 37 = .ok (.ifCond .eq 7, 3) := by decide +kernel
theorem dX2_isToldBack_40 : decode cX2_isToldBack 40 = .ok (.iconst 1, 1) := by decide +kernel
theorem dX2_isToldBack_41 : decode cX2_isToldBack 41 = .ok (.goto 4, 3) := by decide +kernel
theorem dX2_isToldBack_44 : decode cX2_isToldBack 44 = .ok (.iconst 0, 1) := by decide +kernel
theorem dX2_isToldBack_45 : decode cX2_isToldBack 45 = .ok (.ireturn, 1) := by decide +kernel
theorem dX2_order_0 : decode cX2_order 0 = .ok (.aload_n 0, 1) := by decide +kernel
theorem dX2_order_1 : decode cX2_order 1 = .ok (.iload_n 1, 1) := by decide +kernel
theorem dX2_order_2 : decode cX2_order 2 = .ok (.invokevirtual 140, 3) := by decide +kernel
theorem dX2_order_5 : decode cX2_order 5 = .ok (.astore_n 3, 1) := by decide +kernel
theorem dX2_order_6 : decode cX2_order 6 = .ok (.aload_n 3, 1) := by decide +kernel
theorem dX2_order_7 : decode cX2_order 7 = .ok (.aload_n 0, 1) := by decide +kernel
theorem dX2_order_8 : decode cX2_order 8 = .ok (.iload_n 2, 1) := by decide +kernel
theorem dX2_order_9 : decode cX2_order 9 = .ok (.invokevirtual 140, 3) := by decide +kernel
theorem dX2_order_12 : decode cX2_order 12 = .ok (.invokevirtual 181, 3) := by decide +kernel
theorem dX2_order_15 : decode cX2_order 15 = .ok (.ireturn, 1) := by decide +kernel
theorem dX2_knock_0 : decode cX2_knock 0 = .ok (.aload_n 0, 1) := by decide +kernel
theorem dX2_knock_1 : decode cX2_knock 1 = .ok (.dup, 1) := by decide +kernel
theorem dX2_knock_2 : decode cX2_knock 2 = .ok (.getfield 185, 3) := by decide +kernel
theorem dX2_knock_5 : decode cX2_knock 5 = .ok (.iconst 1, 1) := by decide +kernel
theorem dX2_knock_6 : decode cX2_knock 6 = .ok (.iadd, 1) := by decide +kernel
theorem dX2_knock_7 : decode cX2_knock 7 = .ok (.putfield 185, 3) := by decide +kernel
theorem dX2_knock_10 : decode cX2_knock 10 = .ok (.aload_n 0, 1) := by decide +kernel
theorem dX2_knock_11 : decode cX2_knock 11 = .ok (.getfield 185, 3) := by decide +kernel
theorem dX2_knock_14 : decode cX2_knock 14 = .ok (.ireturn, 1) := by decide +kernel
theorem dX2_house_0 : decode cX2_house 0 = .ok (.iload_n 1, 1) := by decide +kernel
theorem dX2_house_1 : decode cX2_house 1 = .ok (.iconst 5, 1) := by decide +kernel
theorem dX2_house_2 : decode cX2_house 2 = .ok (.invokestatic 51, 3) := by decide +kernel
theorem dX2_house_5 : decode cX2_house 5 = .ok (.aload_n 0, 1) := by decide +kernel
theorem dX2_house_6 : decode cX2_house 6 = .ok (.iload_n 1, 1) := by decide +kernel
theorem dX2_house_7 : decode cX2_house 7 = .ok (.invokevirtual 188, 3) := by decide +kernel
theorem dX2_house_10 : decode cX2_house 10 = .ok (.ireturn, 1) := by decide +kernel
theorem dX2_isSound_0 : decode cX2_isSound 0 = .ok (.iconst 0, 1) := by decide +kernel
theorem dX2_isSound_1 : decode cX2_isSound 1 = .ok (.istore_n 1, 1) := by decide +kernel
theorem dX2_isSound_2 : decode cX2_isSound 2 = .ok (.iload_n 1, 1) := by decide +kernel
theorem dX2_isSound_3 : decode cX2_isSound 3 = .ok (.iconst 4, 1) := by decide +kernel
theorem dX2_isSound_4 : decode cX2_isSound 4 = .ok (.if_icmp .ge 77, 3) := by decide +kernel
theorem dX2_isSound_7 : decode cX2_isSound 7 = .ok (.aload_n 0, 1) := by decide +kernel
theorem dX2_isSound_8 : decode cX2_isSound 8 = .ok (.aload_n 0, 1) := by decide +kernel
theorem dX2_isSound_9 : decode cX2_isSound 9 = .ok (.getfield 11, 3) := by decide +kernel
theorem dX2_isSound_12 : decode cX2_isSound 12 = .ok (.iload_n 1, 1) := by decide +kernel
theorem dX2_isSound_13 : decode cX2_isSound 13 = .ok (.aaload, 1) := by decide +kernel
theorem dX2_isSound_14 : decode cX2_isSound 14 = .ok (.invokevirtual 191, 3) := by decide +kernel
theorem dX2_isSound_17 : decode cX2_isSound 17 = .ok (.ifCond .ne 5, 3) := by decide +kernel
theorem dX2_isSound_20 : decode cX2_isSound 20 = .ok (.iconst 0, 1) := by decide +kernel
theorem dX2_isSound_21 : decode cX2_isSound 21 = .ok (.ireturn, 1) := by decide +kernel
theorem dX2_isSound_22 : decode cX2_isSound 22 = .ok (.iconst 0, 1) := by decide +kernel
theorem dX2_isSound_23 : decode cX2_isSound 23 = .ok (.istore_n 2, 1) := by decide +kernel
theorem dX2_isSound_24 : decode cX2_isSound 24 = .ok (.iload_n 2, 1) := by decide +kernel
theorem dX2_isSound_25 : decode cX2_isSound 25 = .ok (.iconst 4, 1) := by decide +kernel
theorem dX2_isSound_26 : decode cX2_isSound 26 = .ok (.if_icmp .ge 49, 3) := by decide +kernel
theorem dX2_isSound_29 : decode cX2_isSound 29 = .ok (.aload_n 0, 1) := by decide +kernel
theorem dX2_isSound_30 : decode cX2_isSound 30 = .ok (.aload_n 0, 1) := by decide +kernel
theorem dX2_isSound_31 : decode cX2_isSound 31 = .ok (.getfield 11, 3) := by decide +kernel
theorem dX2_isSound_34 : decode cX2_isSound 34 = .ok (.iload_n 1, 1) := by decide +kernel
theorem dX2_isSound_35 : decode cX2_isSound 35 = .ok (.aaload, 1) := by decide +kernel
theorem dX2_isSound_36 : decode cX2_isSound 36 = .ok (.aload_n 0, 1) := by decide +kernel
theorem dX2_isSound_37 : decode cX2_isSound 37 = .ok (.getfield 11, 3) := by decide +kernel
theorem dX2_isSound_40 : decode cX2_isSound 40 = .ok (.iload_n 2, 1) := by decide +kernel
theorem dX2_isSound_41 : decode cX2_isSound 41 = .ok (.aaload, 1) := by decide +kernel
theorem dX2_isSound_42 : decode cX2_isSound 42 = .ok (.invokevirtual 194, 3) := by decide +kernel
theorem dX2_isSound_45 : decode cX2_isSound 45 = .ok (.ifCond .eq 22, 3) := by decide +kernel
theorem dX2_isSound_48 : decode cX2_isSound 48 = .ok (.aload_n 0, 1) := by decide +kernel
theorem dX2_isSound_49 : decode cX2_isSound 49 = .ok (.aload_n 0, 1) := by decide +kernel
theorem dX2_isSound_50 : decode cX2_isSound 50 = .ok (.getfield 11, 3) := by decide +kernel
theorem dX2_isSound_53 : decode cX2_isSound 53 = .ok (.iload_n 1, 1) := by decide +kernel
theorem dX2_isSound_54 : decode cX2_isSound 54 = .ok (.aaload, 1) := by decide +kernel
theorem dX2_isSound_55 : decode cX2_isSound 55 = .ok (.aload_n 0, 1) := by decide +kernel
theorem dX2_isSound_56 : decode cX2_isSound 56 = .ok (.getfield 11, 3) := by decide +kernel
theorem dX2_isSound_59 : decode cX2_isSound 59 = .ok (.iload_n 2, 1) := by decide +kernel
theorem dX2_isSound_60 : decode cX2_isSound 60 = .ok (.aaload, 1) := by decide +kernel
theorem dX2_isSound_61 : decode cX2_isSound 61 = .ok (.invokevirtual 197, 3) := by decide +kernel
theorem dX2_isSound_64 : decode cX2_isSound 64 = .ok (.ifCond .ne 5, 3) := by decide +kernel
theorem dX2_isSound_67 : decode cX2_isSound 67 = .ok (.iconst 0, 1) := by decide +kernel
theorem dX2_isSound_68 : decode cX2_isSound 68 = .ok (.ireturn, 1) := by decide +kernel
theorem dX2_isSound_69 : decode cX2_isSound 69 = .ok (.iinc 2 1, 3) := by decide +kernel
theorem dX2_isSound_72 : decode cX2_isSound 72 = .ok (.goto (-48), 3) := by decide +kernel
theorem dX2_isSound_75 : decode cX2_isSound 75 = .ok (.iinc 1 1, 3) := by decide +kernel
theorem dX2_isSound_78 : decode cX2_isSound 78 = .ok (.goto (-76), 3) := by decide +kernel
theorem dX2_isSound_81 : decode cX2_isSound 81 = .ok (.iconst 0, 1) := by decide +kernel
theorem dX2_isSound_82 : decode cX2_isSound 82 = .ok (.istore_n 1, 1) := by decide +kernel
theorem dX2_isSound_83 : decode cX2_isSound 83 = .ok (.iload_n 1, 1) := by decide +kernel
theorem dX2_isSound_84 : decode cX2_isSound 84 = .ok (.iconst 4, 1) := by decide +kernel
theorem dX2_isSound_85 : decode cX2_isSound 85 = .ok (.if_icmp .ge 69, 3) := by decide +kernel
theorem dX2_isSound_88 : decode cX2_isSound 88 = .ok (.iconst 0, 1) := by decide +kernel
theorem dX2_isSound_89 : decode cX2_isSound 89 = .ok (.istore_n 2, 1) := by decide +kernel
theorem dX2_isSound_90 : decode cX2_isSound 90 = .ok (.iload_n 2, 1) := by decide +kernel
theorem dX2_isSound_91 : decode cX2_isSound 91 = .ok (.iconst 4, 1) := by decide +kernel
theorem dX2_isSound_92 : decode cX2_isSound 92 = .ok (.if_icmp .ge 56, 3) := by decide +kernel
theorem dX2_isSound_95 : decode cX2_isSound 95 = .ok (.aload_n 0, 1) := by decide +kernel
theorem dX2_isSound_96 : decode cX2_isSound 96 = .ok (.getfield 25, 3) := by decide +kernel
theorem dX2_isSound_99 : decode cX2_isSound 99 = .ok (.aload_n 0, 1) := by decide +kernel
theorem dX2_isSound_100 : decode cX2_isSound 100 = .ok (.getfield 20, 3) := by decide +kernel
theorem dX2_isSound_103 : decode cX2_isSound 103 = .ok (.iload_n 1, 1) := by decide +kernel
theorem dX2_isSound_104 : decode cX2_isSound 104 = .ok (.aaload, 1) := by decide +kernel
theorem dX2_isSound_105 : decode cX2_isSound 105 = .ok (.aload_n 0, 1) := by decide +kernel
theorem dX2_isSound_106 : decode cX2_isSound 106 = .ok (.getfield 20, 3) := by decide +kernel
theorem dX2_isSound_109 : decode cX2_isSound 109 = .ok (.iload_n 2, 1) := by decide +kernel
theorem dX2_isSound_110 : decode cX2_isSound 110 = .ok (.aaload, 1) := by decide +kernel
theorem dX2_isSound_111 : decode cX2_isSound 111 = .ok (.invokevirtual 173, 3) := by decide +kernel
theorem dX2_isSound_114 : decode cX2_isSound 114 = .ok (.ifCond .eq 28, 3) := by decide +kernel
theorem dX2_isSound_117 : decode cX2_isSound 117 = .ok (.aload_n 0, 1) := by decide +kernel
theorem dX2_isSound_118 : decode cX2_isSound 118 = .ok (.aload_n 0, 1) := by decide +kernel
theorem dX2_isSound_119 : decode cX2_isSound 119 = .ok (.getfield 20, 3) := by decide +kernel
theorem dX2_isSound_122 : decode cX2_isSound 122 = .ok (.iload_n 1, 1) := by decide +kernel
theorem dX2_isSound_123 : decode cX2_isSound 123 = .ok (.aaload, 1) := by decide +kernel
theorem dX2_isSound_124 : decode cX2_isSound 124 = .ok (.aload_n 0, 1) := by decide +kernel
theorem dX2_isSound_125 : decode cX2_isSound 125 = .ok (.getfield 25, 3) := by decide +kernel
theorem dX2_isSound_128 : decode cX2_isSound 128 = .ok (.aload_n 0, 1) := by decide +kernel
theorem dX2_isSound_129 : decode cX2_isSound 129 = .ok (.getfield 20, 3) := by decide +kernel
theorem dX2_isSound_132 : decode cX2_isSound 132 = .ok (.iload_n 2, 1) := by decide +kernel
theorem dX2_isSound_133 : decode cX2_isSound 133 = .ok (.aaload, 1) := by decide +kernel
theorem dX2_isSound_134 : decode cX2_isSound 134 = .ok (.invokevirtual 177, 3) := by decide +kernel
theorem dX2_isSound_137 : decode cX2_isSound 137 = .ok (.ifCond .ne 5, 3) := by decide +kernel
theorem dX2_isSound_140 : decode cX2_isSound 140 = .ok (.iconst 0, 1) := by decide +kernel
theorem dX2_isSound_141 : decode cX2_isSound 141 = .ok (.ireturn, 1) := by decide +kernel
theorem dX2_isSound_142 : decode cX2_isSound 142 = .ok (.iinc 2 1, 3) := by decide +kernel
theorem dX2_isSound_145 : decode cX2_isSound 145 = .ok (.goto (-55), 3) := by decide +kernel
theorem dX2_isSound_148 : decode cX2_isSound 148 = .ok (.iinc 1 1, 3) := by decide +kernel
theorem dX2_isSound_151 : decode cX2_isSound 151 = .ok (.goto (-68), 3) := by decide +kernel
theorem dX2_isSound_154 : decode cX2_isSound 154 = .ok (.iconst 1, 1) := by decide +kernel
theorem dX2_isSound_155 : decode cX2_isSound 155 = .ok (.ireturn, 1) := by decide +kernel
theorem dX2_digest_0 : decode cX2_digest 0 = .ok (.ldc2_w 200, 3) := by decide +kernel
theorem dX2_digest_3 : decode cX2_digest 3 = .ok (.lstore_n 1, 1) := by decide +kernel
theorem dX2_digest_4 : decode cX2_digest 4 = .ok (.iconst 0, 1) := by decide +kernel
theorem dX2_digest_5 : decode cX2_digest 5 = .ok (.istore_n 3, 1) := by decide +kernel
theorem dX2_digest_6 : decode cX2_digest 6 = .ok (.iload_n 3, 1) := by decide +kernel
theorem dX2_digest_7 : decode cX2_digest 7 = .ok (.iconst 4, 1) := by decide +kernel
theorem dX2_digest_8 : decode cX2_digest 8 = .ok (.if_icmp .ge 21, 3) := by decide +kernel
theorem dX2_digest_11 : decode cX2_digest 11 = .ok (.aload_n 0, 1) := by decide +kernel
theorem dX2_digest_12 : decode cX2_digest 12 = .ok (.lload_n 1, 1) := by decide +kernel
theorem dX2_digest_13 : decode cX2_digest 13 = .ok (.aload_n 0, 1) := by decide +kernel
theorem dX2_digest_14 : decode cX2_digest 14 = .ok (.getfield 11, 3) := by decide +kernel
theorem dX2_digest_17 : decode cX2_digest 17 = .ok (.iload_n 3, 1) := by decide +kernel
theorem dX2_digest_18 : decode cX2_digest 18 = .ok (.aaload, 1) := by decide +kernel
theorem dX2_digest_19 : decode cX2_digest 19 = .ok (.invokevirtual 202, 3) := by decide +kernel
theorem dX2_digest_22 : decode cX2_digest 22 = .ok (.lstore_n 1, 1) := by decide +kernel
theorem dX2_digest_23 : decode cX2_digest 23 = .ok (.iinc 3 1, 3) := by decide +kernel
theorem dX2_digest_26 : decode cX2_digest 26 = .ok (.goto (-20), 3) := by decide +kernel
theorem dX2_digest_29 : decode cX2_digest 29 = .ok (.aload_n 0, 1) := by decide +kernel
theorem dX2_digest_30 : decode cX2_digest 30 = .ok (.lload_n 1, 1) := by decide +kernel
theorem dX2_digest_31 : decode cX2_digest 31 = .ok (.invokevirtual 206, 3) := by decide +kernel
theorem dX2_digest_34 : decode cX2_digest 34 = .ok (.lstore_n 1, 1) := by decide +kernel
theorem dX2_digest_35 : decode cX2_digest 35 = .ok (.iconst 0, 1) := by decide +kernel
theorem dX2_digest_36 : decode cX2_digest 36 = .ok (.istore_n 3, 1) := by decide +kernel
theorem dX2_digest_37 : decode cX2_digest 37 = .ok (.iload_n 3, 1) := by decide +kernel
theorem dX2_digest_38 : decode cX2_digest 38 = .ok (.bipush 8, 2) := by decide +kernel
theorem dX2_digest_40 : decode cX2_digest 40 = .ok (.if_icmp .ge 36, 3) := by decide +kernel
theorem dX2_digest_43 : decode cX2_digest 43 = .ok (.lload_n 1, 1) := by decide +kernel
theorem dX2_digest_44 : decode cX2_digest 44 = .ok (.iload_n 3, 1) := by decide +kernel
theorem dX2_digest_45 : decode cX2_digest 45 = .ok (.aload_n 0, 1) := by decide +kernel
theorem dX2_digest_46 : decode cX2_digest 46 = .ok (.getfield 91, 3) := by decide +kernel
theorem dX2_digest_49 : decode cX2_digest 49 = .ok (.if_icmp .ge 16, 3) := by decide +kernel
theorem dX2_digest_52 : decode cX2_digest 52 = .ok (.aload_n 0, 1) := by decide +kernel
theorem dX2_digest_53 : decode cX2_digest 53 = .ok (.getfield 15, 3) := by decide +kernel
theorem dX2_digest_56 : decode cX2_digest 56 = .ok (.iload_n 3, 1) := by decide +kernel
theorem dX2_digest_57 : decode cX2_digest 57 = .ok (.aaload, 1) := by decide +kernel
theorem dX2_digest_58 : decode cX2_digest 58 = .ok (.invokevirtual 210, 3) := by decide +kernel
theorem dX2_digest_61 : decode cX2_digest 61 = .ok (.i2l, 1) := by decide +kernel
theorem dX2_digest_62 : decode cX2_digest 62 = .ok (.goto 4, 3) := by decide +kernel
theorem dX2_digest_65 : decode cX2_digest 65 = .ok (.lconst 0, 1) := by decide +kernel
theorem dX2_digest_66 : decode cX2_digest 66 = .ok (.invokestatic 213, 3) := by decide +kernel
theorem dX2_digest_69 : decode cX2_digest 69 = .ok (.lstore_n 1, 1) := by decide +kernel
theorem dX2_digest_70 : decode cX2_digest 70 = .ok (.iinc 3 1, 3) := by decide +kernel
theorem dX2_digest_73 : decode cX2_digest 73 = .ok (.goto (-36), 3) := by decide +kernel
theorem dX2_digest_76 : decode cX2_digest 76 = .ok (.iconst 0, 1) := by decide +kernel
theorem dX2_digest_77 : decode cX2_digest 77 = .ok (.istore_n 3, 1) := by decide +kernel
theorem dX2_digest_78 : decode cX2_digest 78 = .ok (.iload_n 3, 1) := by decide +kernel
theorem dX2_digest_79 : decode cX2_digest 79 = .ok (.iconst 4, 1) := by decide +kernel
theorem dX2_digest_80 : decode cX2_digest 80 = .ok (.if_icmp .ge 21, 3) := by decide +kernel
theorem dX2_digest_83 : decode cX2_digest 83 = .ok (.aload_n 0, 1) := by decide +kernel
theorem dX2_digest_84 : decode cX2_digest 84 = .ok (.lload_n 1, 1) := by decide +kernel
theorem dX2_digest_85 : decode cX2_digest 85 = .ok (.aload_n 0, 1) := by decide +kernel
theorem dX2_digest_86 : decode cX2_digest 86 = .ok (.getfield 20, 3) := by decide +kernel
theorem dX2_digest_89 : decode cX2_digest 89 = .ok (.iload_n 3, 1) := by decide +kernel
theorem dX2_digest_90 : decode cX2_digest 90 = .ok (.aaload, 1) := by decide +kernel
theorem dX2_digest_91 : decode cX2_digest 91 = .ok (.invokevirtual 217, 3) := by decide +kernel
theorem dX2_digest_94 : decode cX2_digest 94 = .ok (.lstore_n 1, 1) := by decide +kernel
theorem dX2_digest_95 : decode cX2_digest 95 = .ok (.iinc 3 1, 3) := by decide +kernel
theorem dX2_digest_98 : decode cX2_digest 98 = .ok (.goto (-20), 3) := by decide +kernel
theorem dX2_digest_101 : decode cX2_digest 101 = .ok (.aload_n 0, 1) := by decide +kernel
theorem dX2_digest_102 : decode cX2_digest 102 = .ok (.lload_n 1, 1) := by decide +kernel
theorem dX2_digest_103 : decode cX2_digest 103 = .ok (.invokevirtual 221, 3) := by decide +kernel
theorem dX2_digest_106 : decode cX2_digest 106 = .ok (.lstore_n 1, 1) := by decide +kernel
theorem dX2_digest_107 : decode cX2_digest 107 = .ok (.iconst 0, 1) := by decide +kernel
theorem dX2_digest_108 : decode cX2_digest 108 = .ok (.istore_n 3, 1) := by decide +kernel
theorem dX2_digest_109 : decode cX2_digest 109 = .ok (.iload_n 3, 1) := by decide +kernel
theorem dX2_digest_110 : decode cX2_digest 110 = .ok (.iconst 5, 1) := by decide +kernel
theorem dX2_digest_111 : decode cX2_digest 111 = .ok (.if_icmp .ge 20, 3) := by decide +kernel
theorem dX2_digest_114 : decode cX2_digest 114 = .ok (.lload_n 1, 1) := by decide +kernel
theorem dX2_digest_115 : decode cX2_digest 115 = .ok (.aload_n 0, 1) := by decide +kernel
theorem dX2_digest_116 : decode cX2_digest 116 = .ok (.iload_n 3, 1) := by decide +kernel
theorem dX2_digest_117 : decode cX2_digest 117 = .ok (.invokevirtual 188, 3) := by decide +kernel
theorem dX2_digest_120 : decode cX2_digest 120 = .ok (.i2l, 1) := by decide +kernel
theorem dX2_digest_121 : decode cX2_digest 121 = .ok (.invokestatic 213, 3) := by decide +kernel
theorem dX2_digest_124 : decode cX2_digest 124 = .ok (.lstore_n 1, 1) := by decide +kernel
theorem dX2_digest_125 : decode cX2_digest 125 = .ok (.iinc 3 1, 3) := by decide +kernel
theorem dX2_digest_128 : decode cX2_digest 128 = .ok (.goto (-19), 3) := by decide +kernel
theorem dX2_digest_131 : decode cX2_digest 131 = .ok (.lload_n 1, 1) := by decide +kernel
theorem dX2_digest_132 : decode cX2_digest 132 = .ok (.aload_n 0, 1) := by decide +kernel
theorem dX2_digest_133 : decode cX2_digest 133 = .ok (.invokevirtual 224, 3) := by decide +kernel
theorem dX2_digest_136 : decode cX2_digest 136 = .ok (.ifCond .eq 7, 3) := by decide +kernel
theorem dX2_digest_139 : decode cX2_digest 139 = .ok (.lconst 1, 1) := by decide +kernel
theorem dX2_digest_140 : decode cX2_digest 140 = .ok (.goto 4, 3) := by decide +kernel
theorem dX2_digest_143 : decode cX2_digest 143 = .ok (.lconst 0, 1) := by decide +kernel
theorem dX2_digest_144 : decode cX2_digest 144 = .ok (.invokestatic 213, 3) := by decide +kernel
theorem dX2_digest_147 : decode cX2_digest 147 = .ok (.lreturn, 1) := by decide +kernel
theorem dX2_cardAt_0 : decode cX2_cardAt 0 = .ok (.iload_n 1, 1) := by decide +kernel
theorem dX2_cardAt_1 : decode cX2_cardAt 1 = .ok (.ifCond .lt 8, 3) := by decide +kernel
theorem dX2_cardAt_4 : decode cX2_cardAt 4 = .ok (.iload_n 1, 1) := by decide +kernel
theorem dX2_cardAt_5 : decode cX2_cardAt 5 = .ok (.iconst 4, 1) := by decide +kernel
theorem dX2_cardAt_6 : decode cX2_cardAt 6 = .ok (.if_icmp .lt 13, 3) := by decide +kernel
theorem dX2_cardAt_9 : decode cX2_cardAt 9 = .ok (.new 227, 3) := by decide +kernel
theorem dX2_cardAt_12 : decode cX2_cardAt 12 = .ok (.dup, 1) := by decide +kernel
theorem dX2_cardAt_13 : decode cX2_cardAt 13 = .ok (.ldc 229, 2) := by decide +kernel
theorem dX2_cardAt_15 : decode cX2_cardAt 15 = .ok (.invokespecial 231, 3) := by decide +kernel
theorem dX2_cardAt_18 : decode cX2_cardAt 18 = .ok (.athrow, 1) := by decide +kernel
theorem dX2_cardAt_19 : decode cX2_cardAt 19 = .ok (.aload_n 0, 1) := by decide +kernel
theorem dX2_cardAt_20 : decode cX2_cardAt 20 = .ok (.getfield 11, 3) := by decide +kernel
theorem dX2_cardAt_23 : decode cX2_cardAt 23 = .ok (.iload_n 1, 1) := by decide +kernel
theorem dX2_cardAt_24 : decode cX2_cardAt 24 = .ok (.aaload, 1) := by decide +kernel
theorem dX2_cardAt_25 : decode cX2_cardAt 25 = .ok (.areturn, 1) := by decide +kernel
theorem dX2_dateAt_0 : decode cX2_dateAt 0 = .ok (.iload_n 1, 1) := by decide +kernel
theorem dX2_dateAt_1 : decode cX2_dateAt 1 = .ok (.ifCond .lt 8, 3) := by decide +kernel
theorem dX2_dateAt_4 : decode cX2_dateAt 4 = .ok (.iload_n 1, 1) := by decide +kernel
theorem dX2_dateAt_5 : decode cX2_dateAt 5 = .ok (.iconst 4, 1) := by decide +kernel
theorem dX2_dateAt_6 : decode cX2_dateAt 6 = .ok (.if_icmp .lt 13, 3) := by decide +kernel
theorem dX2_dateAt_9 : decode cX2_dateAt 9 = .ok (.new 227, 3) := by decide +kernel
theorem dX2_dateAt_12 : decode cX2_dateAt 12 = .ok (.dup, 1) := by decide +kernel
theorem dX2_dateAt_13 : decode cX2_dateAt 13 = .ok (.ldc 232, 2) := by decide +kernel
theorem dX2_dateAt_15 : decode cX2_dateAt 15 = .ok (.invokespecial 231, 3) := by decide +kernel
theorem dX2_dateAt_18 : decode cX2_dateAt 18 = .ok (.athrow, 1) := by decide +kernel
theorem dX2_dateAt_19 : decode cX2_dateAt 19 = .ok (.aload_n 0, 1) := by decide +kernel
theorem dX2_dateAt_20 : decode cX2_dateAt 20 = .ok (.getfield 20, 3) := by decide +kernel
theorem dX2_dateAt_23 : decode cX2_dateAt 23 = .ok (.iload_n 1, 1) := by decide +kernel
theorem dX2_dateAt_24 : decode cX2_dateAt 24 = .ok (.aaload, 1) := by decide +kernel
theorem dX2_dateAt_25 : decode cX2_dateAt 25 = .ok (.areturn, 1) := by decide +kernel
theorem dX2_checkWhat_0 : decode cX2_checkWhat 0 = .ok (.iload_n 0, 1) := by decide +kernel
theorem dX2_checkWhat_1 : decode cX2_checkWhat 1 = .ok (.ifCond .lt 8, 3) := by decide +kernel
theorem dX2_checkWhat_4 : decode cX2_checkWhat 4 = .ok (.iload_n 0, 1) := by decide +kernel
theorem dX2_checkWhat_5 : decode cX2_checkWhat 5 = .ok (.iload_n 1, 1) := by decide +kernel
theorem dX2_checkWhat_6 : decode cX2_checkWhat 6 = .ok (.if_icmp .lt 13, 3) := by decide +kernel
theorem dX2_checkWhat_9 : decode cX2_checkWhat 9 = .ok (.new 133, 3) := by decide +kernel
theorem dX2_checkWhat_12 : decode cX2_checkWhat 12 = .ok (.dup, 1) := by decide +kernel
theorem dX2_checkWhat_13 : decode cX2_checkWhat 13 = .ok (.ldc 234, 2) := by decide +kernel
theorem dX2_checkWhat_15 : decode cX2_checkWhat 15 = .ok (.invokespecial 137, 3) := by decide +kernel
theorem dX2_checkWhat_18 : decode cX2_checkWhat 18 = .ok (.athrow, 1) := by decide +kernel
theorem dX2_checkWhat_19 : decode cX2_checkWhat 19 = .ok (.return_, 1) := by decide +kernel
theorem dX2_refuse_0 : decode cX2_refuse 0 = .ok (.aload_n 0, 1) := by decide +kernel
theorem dX2_refuse_1 : decode cX2_refuse 1 = .ok (.dup, 1) := by decide +kernel
theorem dX2_refuse_2 : decode cX2_refuse 2 = .ok (.getfield 236, 3) := by decide +kernel
theorem dX2_refuse_5 : decode cX2_refuse 5 = .ok (.iconst 1, 1) := by decide +kernel
theorem dX2_refuse_6 : decode cX2_refuse 6 = .ok (.iadd, 1) := by decide +kernel
theorem dX2_refuse_7 : decode cX2_refuse 7 = .ok (.putfield 236, 3) := by decide +kernel
theorem dX2_refuse_10 : decode cX2_refuse 10 = .ok (.bipush (-9), 2) := by decide +kernel
theorem dX2_refuse_12 : decode cX2_refuse 12 = .ok (.ireturn, 1) := by decide +kernel
theorem dX2_actOnCard_0 : decode cX2_actOnCard 0 = .ok (.iload_n 2, 1) := by decide +kernel
theorem dX2_actOnCard_1 : decode cX2_actOnCard 1 = .ok (.ifCond .ne 8, 3) := by decide +kernel
theorem dX2_actOnCard_4 : decode cX2_actOnCard 4 = .ok (.aload_n 0, 1) := by decide +kernel
theorem dX2_actOnCard_5 : decode cX2_actOnCard 5 = .ok (.invokevirtual 94, 3) := by decide +kernel
theorem dX2_actOnCard_8 : decode cX2_actOnCard 8 = .ok (.ireturn, 1) := by decide +kernel
theorem dX2_actOnCard_9 : decode cX2_actOnCard 9 = .ok (.aload_n 1, 1) := by decide +kernel
theorem dX2_actOnCard_10 : decode cX2_actOnCard 10 = .ok (.aload_n 0, 1) := by decide +kernel
theorem dX2_actOnCard_11 : decode cX2_actOnCard 11 = .ok (.getfield 25, 3) := by decide +kernel
theorem dX2_actOnCard_14 : decode cX2_actOnCard 14 = .ok (.invokevirtual 123, 3) := by decide +kernel
theorem dX2_actOnCard_17 : decode cX2_actOnCard 17 = .ok (.ifCond .eq 5, 3) := by decide +kernel
theorem dX2_actOnCard_20 : decode cX2_actOnCard 20 = .ok (.iconst 0, 1) := by decide +kernel
theorem dX2_actOnCard_21 : decode cX2_actOnCard 21 = .ok (.ireturn, 1) := by decide +kernel
theorem dX2_actOnCard_22 : decode cX2_actOnCard 22 = .ok (.aload_n 1, 1) := by decide +kernel
theorem dX2_actOnCard_23 : decode cX2_actOnCard 23 = .ok (.aload_n 0, 1) := by decide +kernel
theorem dX2_actOnCard_24 : decode cX2_actOnCard 24 = .ok (.getfield 25, 3) := by decide +kernel
theorem dX2_actOnCard_27 : decode cX2_actOnCard 27 = .ok (.invokevirtual 65, 3) := by decide +kernel
theorem dX2_actOnCard_30 : decode cX2_actOnCard 30 = .ok (.iconst 1, 1) := by decide +kernel
theorem dX2_actOnCard_31 : decode cX2_actOnCard 31 = .ok (.ireturn, 1) := by decide +kernel
theorem dX2_actOnDate_0 : decode cX2_actOnDate 0 = .ok (.iload_n 2, 1) := by decide +kernel
theorem dX2_actOnDate_1 : decode cX2_actOnDate 1 = .ok (.ifCond .ne 8, 3) := by decide +kernel
theorem dX2_actOnDate_4 : decode cX2_actOnDate 4 = .ok (.aload_n 0, 1) := by decide +kernel
theorem dX2_actOnDate_5 : decode cX2_actOnDate 5 = .ok (.invokevirtual 94, 3) := by decide +kernel
theorem dX2_actOnDate_8 : decode cX2_actOnDate 8 = .ok (.ireturn, 1) := by decide +kernel
theorem dX2_actOnDate_9 : decode cX2_actOnDate 9 = .ok (.aload_n 1, 1) := by decide +kernel
theorem dX2_actOnDate_10 : decode cX2_actOnDate 10 = .ok (.aload_n 0, 1) := by decide +kernel
theorem dX2_actOnDate_11 : decode cX2_actOnDate 11 = .ok (.getfield 33, 3) := by decide +kernel
theorem dX2_actOnDate_14 : decode cX2_actOnDate 14 = .ok (.invokevirtual 181, 3) := by decide +kernel
theorem dX2_actOnDate_17 : decode cX2_actOnDate 17 = .ok (.ifCond .ne 5, 3) := by decide +kernel
theorem dX2_actOnDate_20 : decode cX2_actOnDate 20 = .ok (.iconst 0, 1) := by decide +kernel
theorem dX2_actOnDate_21 : decode cX2_actOnDate 21 = .ok (.ireturn, 1) := by decide +kernel
theorem dX2_actOnDate_22 : decode cX2_actOnDate 22 = .ok (.aload_n 1, 1) := by decide +kernel
theorem dX2_actOnDate_23 : decode cX2_actOnDate 23 = .ok (.aload_n 0, 1) := by decide +kernel
theorem dX2_actOnDate_24 : decode cX2_actOnDate 24 = .ok (.getfield 33, 3) := by decide +kernel
theorem dX2_actOnDate_27 : decode cX2_actOnDate 27 = .ok (.invokevirtual 157, 3) := by decide +kernel
theorem dX2_actOnDate_30 : decode cX2_actOnDate 30 = .ok (.iconst 1, 1) := by decide +kernel
theorem dX2_actOnDate_31 : decode cX2_actOnDate 31 = .ok (.ireturn, 1) := by decide +kernel
theorem dX2_actByBetween_0 : decode cX2_actByBetween 0 = .ok (.aload_n 0, 1) := by decide +kernel
theorem dX2_actByBetween_1 : decode cX2_actByBetween 1 = .ok (.iload_n 1, 1) := by decide +kernel
theorem dX2_actByBetween_2 : decode cX2_actByBetween 2 = .ok (.invokevirtual 37, 3) := by decide +kernel
theorem dX2_actByBetween_5 : decode cX2_actByBetween 5 = .ok (.astore 4, 2) := by decide +kernel
theorem dX2_actByBetween_7 : decode cX2_actByBetween 7 = .ok (.aload_n 0, 1) := by decide +kernel
theorem dX2_actByBetween_8 : decode cX2_actByBetween 8 = .ok (.iload_n 2, 1) := by decide +kernel
theorem dX2_actByBetween_9 : decode cX2_actByBetween 9 = .ok (.invokevirtual 140, 3) := by decide +kernel
theorem dX2_actByBetween_12 : decode cX2_actByBetween 12 = .ok (.astore 5, 2) := by decide +kernel
theorem dX2_actByBetween_14 : decode cX2_actByBetween 14 = .ok (.aload_n 0, 1) := by decide +kernel
theorem dX2_actByBetween_15 : decode cX2_actByBetween 15 = .ok (.aload 4, 2) := by decide +kernel
theorem dX2_actByBetween_17 : decode cX2_actByBetween 17 = .ok (.aload_n 0, 1) := by decide +kernel
theorem dX2_actByBetween_18 : decode cX2_actByBetween 18 = .ok (.getfield 25, 3) := by decide +kernel
theorem dX2_actByBetween_21 : decode cX2_actByBetween 21 = .ok (.aload 5, 2) := by decide +kernel
theorem dX2_actByBetween_23 : decode cX2_actByBetween 23 = .ok (.aload_n 0, 1) := by decide +kernel
theorem dX2_actByBetween_24 : decode cX2_actByBetween 24 = .ok (.iload_n 3, 1) := by decide +kernel
theorem dX2_actByBetween_25 : decode cX2_actByBetween 25 = .ok (.invokevirtual 140, 3) := by decide +kernel
theorem dX2_actByBetween_28 : decode cX2_actByBetween 28 = .ok (.invokevirtual 173, 3) := by decide +kernel
theorem dX2_actByBetween_31 : decode cX2_actByBetween 31 = .ok (.invokevirtual 45, 3) := by decide +kernel
theorem dX2_actByBetween_34 : decode cX2_actByBetween 34 = .ok (.ireturn, 1) := by decide +kernel
theorem dX2_resultInSigns_0 : decode cX2_resultInSigns 0 = .ok (.iload_n 1, 1) := by decide +kernel
theorem dX2_resultInSigns_1 : decode cX2_resultInSigns 1 = .ok (.ifCond .eq 13, 3) := by decide +kernel
theorem dX2_resultInSigns_4 : decode cX2_resultInSigns 4 = .ok (.aload_n 0, 1) := by decide +kernel
theorem dX2_resultInSigns_5 : decode cX2_resultInSigns 5 = .ok (.getfield 25, 3) := by decide +kernel
theorem dX2_resultInSigns_8 : decode cX2_resultInSigns 8 = .ok (.invokevirtual 100, 3) := by decide +kernel
theorem dX2_resultInSigns_11 : decode cX2_resultInSigns 11 = .ok (.goto 5, 3) := by decide +kernel
theorem dX2_resultInSigns_14 : decode cX2_resultInSigns 14 = .ok (.ldc 98, 2) := by decide +kernel
theorem dX2_resultInSigns_16 : decode cX2_resultInSigns 16 = .ok (.areturn, 1) := by decide +kernel
theorem dX2_reach_0 : decode cX2_reach 0 = .ok (.iload_n 3, 1) := by decide +kernel
theorem dX2_reach_1 : decode cX2_reach 1 = .ok (.ifCond .eq 9, 3) := by decide +kernel
theorem dX2_reach_4 : decode cX2_reach 4 = .ok (.ldc2_w 239, 3) := by decide +kernel
theorem dX2_reach_7 : decode cX2_reach 7 = .ok (.goto 4, 3) := by decide +kernel
theorem dX2_reach_10 : decode cX2_reach 10 = .ok (.lconst 1, 1) := by decide +kernel
theorem dX2_reach_11 : decode cX2_reach 11 = .ok (.lstore 4, 2) := by decide +kernel
theorem dX2_reach_13 : decode cX2_reach 13 = .ok (.aload_n 0, 1) := by decide +kernel
theorem dX2_reach_14 : decode cX2_reach 14 = .ok (.getfield 33, 3) := by decide +kernel
theorem dX2_reach_17 : decode cX2_reach 17 = .ok (.aload_n 1, 1) := by decide +kernel
theorem dX2_reach_18 : decode cX2_reach 18 = .ok (.lload 4, 2) := by decide +kernel
theorem dX2_reach_20 : decode cX2_reach 20 = .ok (.aload_n 2, 1) := by decide +kernel
theorem dX2_reach_21 : decode cX2_reach 21 = .ok (.invokevirtual 108, 3) := by decide +kernel
theorem dX2_reach_24 : decode cX2_reach 24 = .ok (.lmul, 1) := by decide +kernel
theorem dX2_reach_25 : decode cX2_reach 25 = .ok (.lload 4, 2) := by decide +kernel
theorem dX2_reach_27 : decode cX2_reach 27 = .ok (.aload_n 2, 1) := by decide +kernel
theorem dX2_reach_28 : decode cX2_reach 28 = .ok (.getfield 62, 3) := by decide +kernel
theorem dX2_reach_31 : decode cX2_reach 31 = .ok (.i2l, 1) := by decide +kernel
theorem dX2_reach_32 : decode cX2_reach 32 = .ok (.lmul, 1) := by decide +kernel
theorem dX2_reach_33 : decode cX2_reach 33 = .ok (.invokevirtual 241, 3) := by decide +kernel
theorem dX2_reach_36 : decode cX2_reach 36 = .ok (.ireturn, 1) := by decide +kernel
theorem dX2_leads_0 : decode cX2_leads 0 = .ok (.aload_n 0, 1) := by decide +kernel
theorem dX2_leads_1 : decode cX2_leads 1 = .ok (.getfield 33, 3) := by decide +kernel
theorem dX2_leads_4 : decode cX2_leads 4 = .ok (.aload_n 1, 1) := by decide +kernel
theorem dX2_leads_5 : decode cX2_leads 5 = .ok (.aload_n 2, 1) := by decide +kernel
theorem dX2_leads_6 : decode cX2_leads 6 = .ok (.invokevirtual 108, 3) := by decide +kernel
theorem dX2_leads_9 : decode cX2_leads 9 = .ok (.aload_n 2, 1) := by decide +kernel
theorem dX2_leads_10 : decode cX2_leads 10 = .ok (.getfield 62, 3) := by decide +kernel
theorem dX2_leads_13 : decode cX2_leads 13 = .ok (.i2l, 1) := by decide +kernel
theorem dX2_leads_14 : decode cX2_leads 14 = .ok (.invokevirtual 241, 3) := by decide +kernel
theorem dX2_leads_17 : decode cX2_leads 17 = .ok (.ifCond .eq 18, 3) := by decide +kernel
theorem dX2_leads_20 : decode cX2_leads 20 = .ok (.aload_n 0, 1) := by decide +kernel
theorem dX2_leads_21 : decode cX2_leads 21 = .ok (.getfield 33, 3) := by decide +kernel
theorem dX2_leads_24 : decode cX2_leads 24 = .ok (.aload_n 3, 1) := by decide +kernel
theorem dX2_leads_25 : decode cX2_leads 25 = .ok (.invokevirtual 181, 3) := by decide +kernel
theorem dX2_leads_28 : decode cX2_leads 28 = .ok (.ifCond .ne 7, 3) := by decide +kernel
theorem dX2_leads_31 : decode cX2_leads 31 = .ok (.iconst 1, 1) := by decide +kernel
theorem dX2_leads_32 : decode cX2_leads 32 = .ok (.goto 4, 3) := by decide +kernel
theorem dX2_leads_35 : decode cX2_leads 35 = .ok (.iconst 0, 1) := by decide +kernel
theorem dX2_leads_36 : decode cX2_leads 36 = .ok (.ireturn, 1) := by decide +kernel
theorem dX2_ofHouse_0 : decode cX2_ofHouse 0 = .ok (.iload_n 1, 1) := by decide +kernel
theorem dX2_ofHouse_1 : decode cX2_ofHouse 1 = .ok (.tableswitch 51 0 3 #[31, 36, 41, 46], 31) := by decide +kernel
theorem dX2_ofHouse_32 : decode cX2_ofHouse 32 = .ok (.aload_n 0, 1) := by decide +kernel
theorem dX2_ofHouse_33 : decode cX2_ofHouse 33 = .ok (.getfield 185, 3) := by decide +kernel
theorem dX2_ofHouse_36 : decode cX2_ofHouse 36 = .ok (.ireturn, 1) := by decide +kernel
theorem dX2_ofHouse_37 : decode cX2_ofHouse 37 = .ok (.aload_n 0, 1) := by decide +kernel
theorem dX2_ofHouse_38 : decode cX2_ofHouse 38 = .ok (.getfield 236, 3) := by decide +kernel
theorem dX2_ofHouse_41 : decode cX2_ofHouse 41 = .ok (.ireturn, 1) := by decide +kernel
theorem dX2_ofHouse_42 : decode cX2_ofHouse 42 = .ok (.aload_n 0, 1) := by decide +kernel
theorem dX2_ofHouse_43 : decode cX2_ofHouse 43 = .ok (.getfield 91, 3) := by decide +kernel
theorem dX2_ofHouse_46 : decode cX2_ofHouse 46 = .ok (.ireturn, 1) := by decide +kernel
theorem dX2_ofHouse_47 : decode cX2_ofHouse 47 = .ok (.aload_n 0, 1) := by decide +kernel
theorem dX2_ofHouse_48 : decode cX2_ofHouse 48 = .ok (.invokevirtual 245, 3) := by decide +kernel
theorem dX2_ofHouse_51 : decode cX2_ofHouse 51 = .ok (.ireturn, 1) := by decide +kernel
theorem dX2_ofHouse_52 : decode cX2_ofHouse 52 = .ok (.aload_n 0, 1) := by decide +kernel
theorem dX2_ofHouse_53 : decode cX2_ofHouse 53 = .ok (.invokevirtual 248, 3) := by decide +kernel
theorem dX2_ofHouse_56 : decode cX2_ofHouse 56 = .ok (.ireturn, 1) := by decide +kernel
theorem dX2_zeroCards_0 : decode cX2_zeroCards 0 = .ok (.iconst 0, 1) := by decide +kernel
theorem dX2_zeroCards_1 : decode cX2_zeroCards 1 = .ok (.istore_n 1, 1) := by decide +kernel
theorem dX2_zeroCards_2 : decode cX2_zeroCards 2 = .ok (.iconst 0, 1) := by decide +kernel
theorem dX2_zeroCards_3 : decode cX2_zeroCards 3 = .ok (.istore_n 2, 1) := by decide +kernel
theorem dX2_zeroCards_4 : decode cX2_zeroCards 4 = .ok (.iload_n 2, 1) := by decide +kernel
theorem dX2_zeroCards_5 : decode cX2_zeroCards 5 = .ok (.iconst 4, 1) := by decide +kernel
theorem dX2_zeroCards_6 : decode cX2_zeroCards 6 = .ok (.if_icmp .ge 29, 3) := by decide +kernel
theorem dX2_zeroCards_9 : decode cX2_zeroCards 9 = .ok (.iload_n 1, 1) := by decide +kernel
theorem dX2_zeroCards_10 : decode cX2_zeroCards 10 = .ok (.aload_n 0, 1) := by decide +kernel
theorem dX2_zeroCards_11 : decode cX2_zeroCards 11 = .ok (.getfield 11, 3) := by decide +kernel
theorem dX2_zeroCards_14 : decode cX2_zeroCards 14 = .ok (.iload_n 2, 1) := by decide +kernel
theorem dX2_zeroCards_15 : decode cX2_zeroCards 15 = .ok (.aaload, 1) := by decide +kernel
theorem dX2_zeroCards_16 : decode cX2_zeroCards 16 = .ok (.invokevirtual 116, 3) := by decide +kernel
theorem dX2_zeroCards_19 : decode cX2_zeroCards 19 = .ok (.ifCond .eq 7, 3) := by decide +kernel
theorem dX2_zeroCards_22 : decode cX2_zeroCards 22 = .ok (.iconst 1, 1) := by decide +kernel
theorem dX2_zeroCards_23 : decode cX2_zeroCards 23 = .ok (.goto 4, 3) := by decide +kernel
theorem dX2_zeroCards_26 : decode cX2_zeroCards 26 = .ok (.iconst 0, 1) := by decide +kernel
theorem dX2_zeroCards_27 : decode cX2_zeroCards 27 = .ok (.iadd, 1) := by decide +kernel
theorem dX2_zeroCards_28 : decode cX2_zeroCards 28 = .ok (.istore_n 1, 1) := by decide +kernel
theorem dX2_zeroCards_29 : decode cX2_zeroCards 29 = .ok (.iinc 2 1, 3) := by decide +kernel
theorem dX2_zeroCards_32 : decode cX2_zeroCards 32 = .ok (.goto (-28), 3) := by decide +kernel
theorem dX2_zeroCards_35 : decode cX2_zeroCards 35 = .ok (.iload_n 1, 1) := by decide +kernel
theorem dX2_zeroCards_36 : decode cX2_zeroCards 36 = .ok (.ireturn, 1) := by decide +kernel
theorem dX2_negativeCards_0 : decode cX2_negativeCards 0 = .ok (.iconst 0, 1) := by decide +kernel
theorem dX2_negativeCards_1 : decode cX2_negativeCards 1 = .ok (.istore_n 1, 1) := by decide +kernel
theorem dX2_negativeCards_2 : decode cX2_negativeCards 2 = .ok (.iconst 0, 1) := by decide +kernel
theorem dX2_negativeCards_3 : decode cX2_negativeCards 3 = .ok (.istore_n 2, 1) := by decide +kernel
theorem dX2_negativeCards_4 : decode cX2_negativeCards 4 = .ok (.iload_n 2, 1) := by decide +kernel
theorem dX2_negativeCards_5 : decode cX2_negativeCards 5 = .ok (.iconst 4, 1) := by decide +kernel
theorem dX2_negativeCards_6 : decode cX2_negativeCards 6 = .ok (.if_icmp .ge 29, 3) := by decide +kernel
theorem dX2_negativeCards_9 : decode cX2_negativeCards 9 = .ok (.iload_n 1, 1) := by decide +kernel
theorem dX2_negativeCards_10 : decode cX2_negativeCards 10 = .ok (.aload_n 0, 1) := by decide +kernel
theorem dX2_negativeCards_11 : decode cX2_negativeCards 11 = .ok (.getfield 11, 3) := by decide +kernel
theorem dX2_negativeCards_14 : decode cX2_negativeCards 14 = .ok (.iload_n 2, 1) := by decide +kernel
theorem dX2_negativeCards_15 : decode cX2_negativeCards 15 = .ok (.aaload, 1) := by decide +kernel
theorem dX2_negativeCards_16 : decode cX2_negativeCards 16 = .ok (.invokevirtual 120, 3) := by decide +kernel
theorem dX2_negativeCards_19 : decode cX2_negativeCards 19 = .ok (.ifCond .eq 7, 3) := by decide +kernel
theorem dX2_negativeCards_22 : decode cX2_negativeCards 22 = .ok (.iconst 1, 1) := by decide +kernel
theorem dX2_negativeCards_23 : decode cX2_negativeCards 23 = .ok (.goto 4, 3) := by decide +kernel
theorem dX2_negativeCards_26 : decode cX2_negativeCards 26 = .ok (.iconst 0, 1) := by decide +kernel
theorem dX2_negativeCards_27 : decode cX2_negativeCards 27 = .ok (.iadd, 1) := by decide +kernel
theorem dX2_negativeCards_28 : decode cX2_negativeCards 28 = .ok (.istore_n 1, 1) := by decide +kernel
theorem dX2_negativeCards_29 : decode cX2_negativeCards 29 = .ok (.iinc 2 1, 3) := by decide +kernel
theorem dX2_negativeCards_32 : decode cX2_negativeCards 32 = .ok (.goto (-28), 3) := by decide +kernel
theorem dX2_negativeCards_35 : decode cX2_negativeCards 35 = .ok (.iload_n 1, 1) := by decide +kernel
theorem dX2_negativeCards_36 : decode cX2_negativeCards 36 = .ok (.ireturn, 1) := by decide +kernel
theorem dX2_isSpanSound_0 : decode cX2_isSpanSound 0 = .ok (.aload_n 0, 1) := by decide +kernel
theorem dX2_isSpanSound_1 : decode cX2_isSpanSound 1 = .ok (.getfield 25, 3) := by decide +kernel
theorem dX2_isSpanSound_4 : decode cX2_isSpanSound 4 = .ok (.aload_n 1, 1) := by decide +kernel
theorem dX2_isSpanSound_5 : decode cX2_isSpanSound 5 = .ok (.getfield 55, 3) := by decide +kernel
theorem dX2_isSpanSound_8 : decode cX2_isSpanSound 8 = .ok (.i2l, 1) := by decide +kernel
theorem dX2_isSpanSound_9 : decode cX2_isSpanSound 9 = .ok (.aload_n 1, 1) := by decide +kernel
theorem dX2_isSpanSound_10 : decode cX2_isSpanSound 10 = .ok (.getfield 59, 3) := by decide +kernel
theorem dX2_isSpanSound_13 : decode cX2_isSpanSound 13 = .ok (.i2l, 1) := by decide +kernel
theorem dX2_isSpanSound_14 : decode cX2_isSpanSound 14 = .ok (.aload_n 1, 1) := by decide +kernel
theorem dX2_isSpanSound_15 : decode cX2_isSpanSound 15 = .ok (.getfield 62, 3) := by decide +kernel
theorem dX2_isSpanSound_18 : decode cX2_isSpanSound 18 = .ok (.i2l, 1) := by decide +kernel
theorem dX2_isSpanSound_19 : decode cX2_isSpanSound 19 = .ok (.invokevirtual 41, 3) := by decide +kernel
theorem dX2_isSpanSound_22 : decode cX2_isSpanSound 22 = .ok (.ifCond .eq 14, 3) := by decide +kernel
theorem dX2_isSpanSound_25 : decode cX2_isSpanSound 25 = .ok (.aload_n 0, 1) := by decide +kernel
theorem dX2_isSpanSound_26 : decode cX2_isSpanSound 26 = .ok (.getfield 25, 3) := by decide +kernel
theorem dX2_isSpanSound_29 : decode cX2_isSpanSound 29 = .ok (.aload_n 1, 1) := by decide +kernel
theorem dX2_isSpanSound_30 : decode cX2_isSpanSound 30 = .ok (.invokevirtual 123, 3) := by decide +kernel
theorem dX2_isSpanSound_33 : decode cX2_isSpanSound 33 = .ok (.ifCond .ne 5, 3) := by decide +kernel
theorem dX2_isSpanSound_36 : decode cX2_isSpanSound 36 = .ok (.iconst 0, 1) := by decide +kernel
theorem dX2_isSpanSound_37 : decode cX2_isSpanSound 37 = .ok (.ireturn, 1) := by decide +kernel
theorem dX2_isSpanSound_38 : decode cX2_isSpanSound 38 = .ok (.aload_n 0, 1) := by decide +kernel
theorem dX2_isSpanSound_39 : decode cX2_isSpanSound 39 = .ok (.getfield 25, 3) := by decide +kernel
theorem dX2_isSpanSound_42 : decode cX2_isSpanSound 42 = .ok (.aload_n 1, 1) := by decide +kernel
theorem dX2_isSpanSound_43 : decode cX2_isSpanSound 43 = .ok (.invokevirtual 84, 3) := by decide +kernel
theorem dX2_isSpanSound_46 : decode cX2_isSpanSound 46 = .ok (.ifCond .eq 30, 3) := by decide +kernel
theorem dX2_isSpanSound_49 : decode cX2_isSpanSound 49 = .ok (.aload_n 0, 1) := by decide +kernel
theorem dX2_isSpanSound_50 : decode cX2_isSpanSound 50 = .ok (.getfield 29, 3) := by decide +kernel
theorem dX2_isSpanSound_53 : decode cX2_isSpanSound 53 = .ok (.aload_n 0, 1) := by decide +kernel
theorem dX2_isSpanSound_54 : decode cX2_isSpanSound 54 = .ok (.getfield 25, 3) := by decide +kernel
theorem dX2_isSpanSound_57 : decode cX2_isSpanSound 57 = .ok (.invokevirtual 84, 3) := by decide +kernel
theorem dX2_isSpanSound_60 : decode cX2_isSpanSound 60 = .ok (.ifCond .eq 14, 3) := by decide +kernel
theorem dX2_isSpanSound_63 : decode cX2_isSpanSound 63 = .ok (.aload_n 0, 1) := by decide +kernel
theorem dX2_isSpanSound_64 : decode cX2_isSpanSound 64 = .ok (.getfield 29, 3) := by decide +kernel
theorem dX2_isSpanSound_67 : decode cX2_isSpanSound 67 = .ok (.aload_n 1, 1) := by decide +kernel
theorem dX2_isSpanSound_68 : decode cX2_isSpanSound 68 = .ok (.invokevirtual 123, 3) := by decide +kernel
theorem dX2_isSpanSound_71 : decode cX2_isSpanSound 71 = .ok (.ifCond .ne 5, 3) := by decide +kernel
theorem dX2_isSpanSound_74 : decode cX2_isSpanSound 74 = .ok (.iconst 0, 1) := by decide +kernel
theorem dX2_isSpanSound_75 : decode cX2_isSpanSound 75 = .ok (.ireturn, 1) := by decide +kernel
theorem dX2_isSpanSound_76 : decode cX2_isSpanSound 76 = .ok (.aload_n 0, 1) := by decide +kernel
theorem dX2_isSpanSound_77 : decode cX2_isSpanSound 77 = .ok (.getfield 25, 3) := by decide +kernel
theorem dX2_isSpanSound_80 : decode cX2_isSpanSound 80 = .ok (.aload_n 1, 1) := by decide +kernel
theorem dX2_isSpanSound_81 : decode cX2_isSpanSound 81 = .ok (.invokevirtual 88, 3) := by decide +kernel
theorem dX2_isSpanSound_84 : decode cX2_isSpanSound 84 = .ok (.ifCond .ne 5, 3) := by decide +kernel
theorem dX2_isSpanSound_87 : decode cX2_isSpanSound 87 = .ok (.iconst 1, 1) := by decide +kernel
theorem dX2_isSpanSound_88 : decode cX2_isSpanSound 88 = .ok (.ireturn, 1) := by decide +kernel
theorem dX2_isSpanSound_89 : decode cX2_isSpanSound 89 = .ok (.aload_n 0, 1) := by decide +kernel
theorem dX2_isSpanSound_90 : decode cX2_isSpanSound 90 = .ok (.getfield 25, 3) := by decide +kernel
theorem dX2_isSpanSound_93 : decode cX2_isSpanSound 93 = .ok (.aload_n 1, 1) := by decide +kernel
theorem dX2_isSpanSound_94 : decode cX2_isSpanSound 94 = .ok (.invokevirtual 126, 3) := by decide +kernel
theorem dX2_isSpanSound_97 : decode cX2_isSpanSound 97 = .ok (.ifCond .eq 35, 3) := by decide +kernel
theorem dX2_isSpanSound_100 : decode cX2_isSpanSound 100 = .ok (.aload_n 0, 1) := by decide +kernel
theorem dX2_isSpanSound_101 : decode cX2_isSpanSound 101 = .ok (.getfield 29, 3) := by decide +kernel
theorem dX2_isSpanSound_104 : decode cX2_isSpanSound 104 = .ok (.aload_n 0, 1) := by decide +kernel
theorem dX2_isSpanSound_105 : decode cX2_isSpanSound 105 = .ok (.getfield 25, 3) := by decide +kernel
theorem dX2_isSpanSound_108 : decode cX2_isSpanSound 108 = .ok (.invokevirtual 88, 3) := by decide +kernel
theorem dX2_isSpanSound_111 : decode cX2_isSpanSound 111 = .ok (.ifCond .eq 21, 3) := by decide +kernel
theorem dX2_isSpanSound_114 : decode cX2_isSpanSound 114 = .ok (.aload_n 0, 1) := by decide +kernel
theorem dX2_isSpanSound_115 : decode cX2_isSpanSound 115 = .ok (.getfield 29, 3) := by decide +kernel
theorem dX2_isSpanSound_118 : decode cX2_isSpanSound 118 = .ok (.aload_n 0, 1) := by decide +kernel
theorem dX2_isSpanSound_119 : decode cX2_isSpanSound 119 = .ok (.getfield 25, 3) := by decide +kernel
theorem dX2_isSpanSound_122 : decode cX2_isSpanSound 122 = .ok (.invokevirtual 123, 3) := by decide +kernel
theorem dX2_isSpanSound_125 : decode cX2_isSpanSound 125 = .ok (.ifCond .eq 7, 3) := by decide +kernel
theorem dX2_isSpanSound_128 : decode cX2_isSpanSound 128 = .ok (.iconst 1, 1) := by decide +kernel
theorem dX2_isSpanSound_129 : decode cX2_isSpanSound 129 = .ok (.goto 4, 3) := by decide +kernel
theorem dX2_isSpanSound_132 : decode cX2_isSpanSound 132 = .ok (.iconst 0, 1) := by decide +kernel
theorem dX2_isSpanSound_133 : decode cX2_isSpanSound 133 = .ok (.ireturn, 1) := by decide +kernel
theorem dX2_isSumSound_0 : decode cX2_isSumSound 0 = .ok (.aload_n 0, 1) := by decide +kernel
theorem dX2_isSumSound_1 : decode cX2_isSumSound 1 = .ok (.getfield 25, 3) := by decide +kernel
theorem dX2_isSumSound_4 : decode cX2_isSumSound 4 = .ok (.aload_n 1, 1) := by decide +kernel
theorem dX2_isSumSound_5 : decode cX2_isSumSound 5 = .ok (.aload_n 2, 1) := by decide +kernel
theorem dX2_isSumSound_6 : decode cX2_isSumSound 6 = .ok (.invokevirtual 73, 3) := by decide +kernel
theorem dX2_isSumSound_9 : decode cX2_isSumSound 9 = .ok (.istore_n 3, 1) := by decide +kernel
theorem dX2_isSumSound_10 : decode cX2_isSumSound 10 = .ok (.iload_n 3, 1) := by decide +kernel
theorem dX2_isSumSound_11 : decode cX2_isSumSound 11 = .ok (.aload_n 0, 1) := by decide +kernel
theorem dX2_isSumSound_12 : decode cX2_isSumSound 12 = .ok (.getfield 29, 3) := by decide +kernel
theorem dX2_isSumSound_15 : decode cX2_isSumSound 15 = .ok (.aload_n 2, 1) := by decide +kernel
theorem dX2_isSumSound_16 : decode cX2_isSumSound 16 = .ok (.aload_n 1, 1) := by decide +kernel
theorem dX2_isSumSound_17 : decode cX2_isSumSound 17 = .ok (.invokevirtual 73, 3) := by decide +kernel
theorem dX2_isSumSound_20 : decode cX2_isSumSound 20 = .ok (.if_icmp .eq 5, 3) := by decide +kernel
theorem dX2_isSumSound_23 : decode cX2_isSumSound 23 = .ok (.iconst 0, 1) := by decide +kernel
theorem dX2_isSumSound_24 : decode cX2_isSumSound 24 = .ok (.ireturn, 1) := by decide +kernel
theorem dX2_isSumSound_25 : decode cX2_isSumSound 25 = .ok (.iload_n 3, 1) := by decide +kernel
theorem dX2_isSumSound_26 : decode cX2_isSumSound 26 = .ok (.ifCond .ne 5, 3) := by decide +kernel
theorem dX2_isSumSound_29 : decode cX2_isSumSound 29 = .ok (.iconst 1, 1) := by decide +kernel
theorem dX2_isSumSound_30 : decode cX2_isSumSound 30 = .ok (.ireturn, 1) := by decide +kernel
theorem dX2_isSumSound_31 : decode cX2_isSumSound 31 = .ok (.aload_n 0, 1) := by decide +kernel
theorem dX2_isSumSound_32 : decode cX2_isSumSound 32 = .ok (.getfield 25, 3) := by decide +kernel
theorem dX2_isSumSound_35 : decode cX2_isSumSound 35 = .ok (.aload_n 0, 1) := by decide +kernel
theorem dX2_isSumSound_36 : decode cX2_isSumSound 36 = .ok (.getfield 29, 3) := by decide +kernel
theorem dX2_isSumSound_39 : decode cX2_isSumSound 39 = .ok (.invokevirtual 123, 3) := by decide +kernel
theorem dX2_isSumSound_42 : decode cX2_isSumSound 42 = .ok (.ifCond .ne 5, 3) := by decide +kernel
theorem dX2_isSumSound_45 : decode cX2_isSumSound 45 = .ok (.iconst 0, 1) := by decide +kernel
theorem dX2_isSumSound_46 : decode cX2_isSumSound 46 = .ok (.ireturn, 1) := by decide +kernel
theorem dX2_isSumSound_47 : decode cX2_isSumSound 47 = .ok (.aload_n 0, 1) := by decide +kernel
theorem dX2_isSumSound_48 : decode cX2_isSumSound 48 = .ok (.getfield 29, 3) := by decide +kernel
theorem dX2_isSumSound_51 : decode cX2_isSumSound 51 = .ok (.aload_n 0, 1) := by decide +kernel
theorem dX2_isSumSound_52 : decode cX2_isSumSound 52 = .ok (.getfield 25, 3) := by decide +kernel
theorem dX2_isSumSound_55 : decode cX2_isSumSound 55 = .ok (.aload_n 2, 1) := by decide +kernel
theorem dX2_isSumSound_56 : decode cX2_isSumSound 56 = .ok (.invokevirtual 77, 3) := by decide +kernel
theorem dX2_isSumSound_59 : decode cX2_isSumSound 59 = .ok (.ifCond .eq 18, 3) := by decide +kernel
theorem dX2_isSumSound_62 : decode cX2_isSumSound 62 = .ok (.aload_n 0, 1) := by decide +kernel
theorem dX2_isSumSound_63 : decode cX2_isSumSound 63 = .ok (.getfield 29, 3) := by decide +kernel
theorem dX2_isSumSound_66 : decode cX2_isSumSound 66 = .ok (.aload_n 1, 1) := by decide +kernel
theorem dX2_isSumSound_67 : decode cX2_isSumSound 67 = .ok (.invokevirtual 123, 3) := by decide +kernel
theorem dX2_isSumSound_70 : decode cX2_isSumSound 70 = .ok (.ifCond .eq 7, 3) := by decide +kernel
theorem dX2_isSumSound_73 : decode cX2_isSumSound 73 = .ok (.iconst 1, 1) := by decide +kernel
theorem dX2_isSumSound_74 : decode cX2_isSumSound 74 = .ok (.goto 4, 3) := by decide +kernel
theorem dX2_isSumSound_77 : decode cX2_isSumSound 77 = .ok (.iconst 0, 1) := by decide +kernel
theorem dX2_isSumSound_78 : decode cX2_isSumSound 78 = .ok (.ireturn, 1) := by decide +kernel
theorem dX2_isAlikenessSound_0 : decode cX2_isAlikenessSound 0 = .ok (.aload_n 0, 1) := by decide +kernel
theorem dX2_isAlikenessSound_1 : decode cX2_isAlikenessSound 1 = .ok (.getfield 25, 3) := by decide +kernel
theorem dX2_isAlikenessSound_4 : decode cX2_isAlikenessSound 4 = .ok (.aload_n 1, 1) := by decide +kernel
theorem dX2_isAlikenessSound_5 : decode cX2_isAlikenessSound 5 = .ok (.invokevirtual 84, 3) := by decide +kernel
theorem dX2_isAlikenessSound_8 : decode cX2_isAlikenessSound 8 = .ok (.ifCond .eq 14, 3) := by decide +kernel
theorem dX2_isAlikenessSound_11 : decode cX2_isAlikenessSound 11 = .ok (.aload_n 0, 1) := by decide +kernel
theorem dX2_isAlikenessSound_12 : decode cX2_isAlikenessSound 12 = .ok (.getfield 29, 3) := by decide +kernel
theorem dX2_isAlikenessSound_15 : decode cX2_isAlikenessSound 15 = .ok (.aload_n 2, 1) := by decide +kernel
theorem dX2_isAlikenessSound_16 : decode cX2_isAlikenessSound 16 = .ok (.invokevirtual 84, 3) := by decide +kernel
theorem dX2_isAlikenessSound_19 : decode cX2_isAlikenessSound 19 = .ok (.ifCond .ne 5, 3) := by decide +kernel
theorem dX2_isAlikenessSound_22 : decode cX2_isAlikenessSound 22 = .ok (.iconst 1, 1) := by decide +kernel
theorem dX2_isAlikenessSound_23 : decode cX2_isAlikenessSound 23 = .ok (.ireturn, 1) := by decide +kernel
theorem dX2_isAlikenessSound_24 : decode cX2_isAlikenessSound 24 = .ok (.aload_n 0, 1) := by decide +kernel
theorem dX2_isAlikenessSound_25 : decode cX2_isAlikenessSound 25 = .ok (.getfield 25, 3) := by decide +kernel
theorem dX2_isAlikenessSound_28 : decode cX2_isAlikenessSound 28 = .ok (.aload_n 0, 1) := by decide +kernel
theorem dX2_isAlikenessSound_29 : decode cX2_isAlikenessSound 29 = .ok (.getfield 29, 3) := by decide +kernel
theorem dX2_isAlikenessSound_32 : decode cX2_isAlikenessSound 32 = .ok (.invokevirtual 126, 3) := by decide +kernel
theorem dX2_isAlikenessSound_35 : decode cX2_isAlikenessSound 35 = .ok (.aload_n 1, 1) := by decide +kernel
theorem dX2_isAlikenessSound_36 : decode cX2_isAlikenessSound 36 = .ok (.aload_n 2, 1) := by decide +kernel
theorem dX2_isAlikenessSound_37 : decode cX2_isAlikenessSound 37 = .ok (.invokevirtual 126, 3) := by decide +kernel
theorem dX2_isAlikenessSound_40 : decode cX2_isAlikenessSound 40 = .ok (.if_icmp .ne 7, 3) := by decide +kernel
theorem dX2_isAlikenessSound_43 : decode cX2_isAlikenessSound 43 = .ok (.iconst 1, 1) := by decide +kernel
theorem dX2_isAlikenessSound_44 : decode cX2_isAlikenessSound 44 = .ok (.goto 4, 3) := by decide +kernel
theorem dX2_isAlikenessSound_47 : decode cX2_isAlikenessSound 47 = .ok (.iconst 0, 1) := by decide +kernel
theorem dX2_isAlikenessSound_48 : decode cX2_isAlikenessSound 48 = .ok (.ireturn, 1) := by decide +kernel
theorem dX2_digestNext_0 : decode cX2_digestNext 0 = .ok (.lload_n 0, 1) := by decide +kernel
theorem dX2_digestNext_1 : decode cX2_digestNext 1 = .ok (.ldc2_w 251, 3) := by decide +kernel
theorem dX2_digestNext_4 : decode cX2_digestNext 4 = .ok (.lmul, 1) := by decide +kernel
theorem dX2_digestNext_5 : decode cX2_digestNext 5 = .ok (.lload_n 2, 1) := by decide +kernel
theorem dX2_digestNext_6 : decode cX2_digestNext 6 = .ok (.ladd, 1) := by decide +kernel
theorem dX2_digestNext_7 : decode cX2_digestNext 7 = .ok (.lreturn, 1) := by decide +kernel
theorem dX2_digestCard_0 : decode cX2_digestCard 0 = .ok (.lload_n 1, 1) := by decide +kernel
theorem dX2_digestCard_1 : decode cX2_digestCard 1 = .ok (.lstore 4, 2) := by decide +kernel
theorem dX2_digestCard_3 : decode cX2_digestCard 3 = .ok (.iconst 0, 1) := by decide +kernel
theorem dX2_digestCard_4 : decode cX2_digestCard 4 = .ok (.istore 6, 2) := by decide +kernel
theorem dX2_digestCard_6 : decode cX2_digestCard 6 = .ok (.iload 6, 2) := by decide +kernel
theorem dX2_digestCard_8 : decode cX2_digestCard 8 = .ok (.iconst 3, 1) := by decide +kernel
theorem dX2_digestCard_9 : decode cX2_digestCard 9 = .ok (.if_icmp .ge 23, 3) := by decide +kernel
theorem dX2_digestCard_12 : decode cX2_digestCard 12 = .ok (.lload 4, 2) := by decide +kernel
theorem dX2_digestCard_14 : decode cX2_digestCard 14 = .ok (.aload_n 3, 1) := by decide +kernel
theorem dX2_digestCard_15 : decode cX2_digestCard 15 = .ok (.iload 6, 2) := by decide +kernel
theorem dX2_digestCard_17 : decode cX2_digestCard 17 = .ok (.invokevirtual 104, 3) := by decide +kernel
theorem dX2_digestCard_20 : decode cX2_digestCard 20 = .ok (.i2l, 1) := by decide +kernel
theorem dX2_digestCard_21 : decode cX2_digestCard 21 = .ok (.invokestatic 213, 3) := by decide +kernel
theorem dX2_digestCard_24 : decode cX2_digestCard 24 = .ok (.lstore 4, 2) := by decide +kernel
theorem dX2_digestCard_26 : decode cX2_digestCard 26 = .ok (.iinc 6 1, 3) := by decide +kernel
theorem dX2_digestCard_29 : decode cX2_digestCard 29 = .ok (.goto (-23), 3) := by decide +kernel
theorem dX2_digestCard_32 : decode cX2_digestCard 32 = .ok (.lload 4, 2) := by decide +kernel
theorem dX2_digestCard_34 : decode cX2_digestCard 34 = .ok (.aload_n 3, 1) := by decide +kernel
theorem dX2_digestCard_35 : decode cX2_digestCard 35 = .ok (.invokevirtual 108, 3) := by decide +kernel
theorem dX2_digestCard_38 : decode cX2_digestCard 38 = .ok (.invokestatic 213, 3) := by decide +kernel
theorem dX2_digestCard_41 : decode cX2_digestCard 41 = .ok (.lstore 4, 2) := by decide +kernel
theorem dX2_digestCard_43 : decode cX2_digestCard 43 = .ok (.lload 4, 2) := by decide +kernel
theorem dX2_digestCard_45 : decode cX2_digestCard 45 = .ok (.aload_n 3, 1) := by decide +kernel
theorem dX2_digestCard_46 : decode cX2_digestCard 46 = .ok (.invokevirtual 116, 3) := by decide +kernel
theorem dX2_digestCard_49 : decode cX2_digestCard 49 = .ok (.ifCond .eq 7, 3) := by decide +kernel
theorem dX2_digestCard_52 : decode cX2_digestCard 52 = .ok (.lconst 1, 1) := by decide +kernel
theorem dX2_digestCard_53 : decode cX2_digestCard 53 = .ok (.goto 4, 3) := by decide +kernel
theorem dX2_digestCard_56 : decode cX2_digestCard 56 = .ok (.lconst 0, 1) := by decide +kernel
theorem dX2_digestCard_57 : decode cX2_digestCard 57 = .ok (.invokestatic 213, 3) := by decide +kernel
theorem dX2_digestCard_60 : decode cX2_digestCard 60 = .ok (.lstore 4, 2) := by decide +kernel
theorem dX2_digestCard_62 : decode cX2_digestCard 62 = .ok (.lload 4, 2) := by decide +kernel
theorem dX2_digestCard_64 : decode cX2_digestCard 64 = .ok (.aload_n 3, 1) := by decide +kernel
theorem dX2_digestCard_65 : decode cX2_digestCard 65 = .ok (.invokevirtual 120, 3) := by decide +kernel
theorem dX2_digestCard_68 : decode cX2_digestCard 68 = .ok (.ifCond .eq 7, 3) := by decide +kernel
theorem dX2_digestCard_71 : decode cX2_digestCard 71 = .ok (.lconst 1, 1) := by decide +kernel
theorem dX2_digestCard_72 : decode cX2_digestCard 72 = .ok (.goto 4, 3) := by decide +kernel
theorem dX2_digestCard_75 : decode cX2_digestCard 75 = .ok (.lconst 0, 1) := by decide +kernel
theorem dX2_digestCard_76 : decode cX2_digestCard 76 = .ok (.invokestatic 213, 3) := by decide +kernel
theorem dX2_digestCard_79 : decode cX2_digestCard 79 = .ok (.lstore 4, 2) := by decide +kernel
theorem dX2_digestCard_81 : decode cX2_digestCard 81 = .ok (.lload 4, 2) := by decide +kernel
theorem dX2_digestCard_83 : decode cX2_digestCard 83 = .ok (.aload_n 3, 1) := by decide +kernel
theorem dX2_digestCard_84 : decode cX2_digestCard 84 = .ok (.invokevirtual 210, 3) := by decide +kernel
theorem dX2_digestCard_87 : decode cX2_digestCard 87 = .ok (.i2l, 1) := by decide +kernel
theorem dX2_digestCard_88 : decode cX2_digestCard 88 = .ok (.invokestatic 213, 3) := by decide +kernel
theorem dX2_digestCard_91 : decode cX2_digestCard 91 = .ok (.lstore 4, 2) := by decide +kernel
theorem dX2_digestCard_93 : decode cX2_digestCard 93 = .ok (.lload 4, 2) := by decide +kernel
theorem dX2_digestCard_95 : decode cX2_digestCard 95 = .ok (.aload_n 0, 1) := by decide +kernel
theorem dX2_digestCard_96 : decode cX2_digestCard 96 = .ok (.aload_n 0, 1) := by decide +kernel
theorem dX2_digestCard_97 : decode cX2_digestCard 97 = .ok (.getfield 25, 3) := by decide +kernel
theorem dX2_digestCard_100 : decode cX2_digestCard 100 = .ok (.aload_n 3, 1) := by decide +kernel
theorem dX2_digestCard_101 : decode cX2_digestCard 101 = .ok (.invokevirtual 88, 3) := by decide +kernel
theorem dX2_digestCard_104 : decode cX2_digestCard 104 = .ok (.invokevirtual 253, 3) := by decide +kernel
theorem dX2_digestCard_107 : decode cX2_digestCard 107 = .ok (.i2l, 1) := by decide +kernel
theorem dX2_digestCard_108 : decode cX2_digestCard 108 = .ok (.invokestatic 213, 3) := by decide +kernel
theorem dX2_digestCard_111 : decode cX2_digestCard 111 = .ok (.lstore 4, 2) := by decide +kernel
theorem dX2_digestCard_113 : decode cX2_digestCard 113 = .ok (.lload 4, 2) := by decide +kernel
theorem dX2_digestCard_115 : decode cX2_digestCard 115 = .ok (.aload_n 0, 1) := by decide +kernel
theorem dX2_digestCard_116 : decode cX2_digestCard 116 = .ok (.aload_n 0, 1) := by decide +kernel
theorem dX2_digestCard_117 : decode cX2_digestCard 117 = .ok (.getfield 25, 3) := by decide +kernel
theorem dX2_digestCard_120 : decode cX2_digestCard 120 = .ok (.aload_n 3, 1) := by decide +kernel
theorem dX2_digestCard_121 : decode cX2_digestCard 121 = .ok (.invokevirtual 84, 3) := by decide +kernel
theorem dX2_digestCard_124 : decode cX2_digestCard 124 = .ok (.invokevirtual 253, 3) := by decide +kernel
theorem dX2_digestCard_127 : decode cX2_digestCard 127 = .ok (.i2l, 1) := by decide +kernel
theorem dX2_digestCard_128 : decode cX2_digestCard 128 = .ok (.invokestatic 213, 3) := by decide +kernel
theorem dX2_digestCard_131 : decode cX2_digestCard 131 = .ok (.lreturn, 1) := by decide +kernel
theorem dX2_digestPairsOfCards_0 : decode cX2_digestPairsOfCards 0 = .ok (.lload_n 1, 1) := by decide +kernel
theorem dX2_digestPairsOfCards_1 : decode cX2_digestPairsOfCards 1 = .ok (.lstore_n 3, 1) := by decide +kernel
theorem dX2_digestPairsOfCards_2 : decode cX2_digestPairsOfCards 2 = .ok (.iconst 0, 1) := by decide +kernel
theorem dX2_digestPairsOfCards_3 : decode cX2_digestPairsOfCards 3 = .ok (.istore 5, 2) := by decide +kernel
theorem dX2_digestPairsOfCards_5 : decode cX2_digestPairsOfCards 5 = .ok (.iload 5, 2) := by decide +kernel
theorem dX2_digestPairsOfCards_7 : decode cX2_digestPairsOfCards 7 = .ok (.iconst 4, 1) := by decide +kernel
theorem dX2_digestPairsOfCards_8 : decode cX2_digestPairsOfCards 8 = .ok (.if_icmp .ge 84, 3) := by decide +kernel
theorem dX2_digestPairsOfCards_11 : decode cX2_digestPairsOfCards 11 = .ok (.iconst 0, 1) := by decide +kernel
theorem dX2_digestPairsOfCards_12 : decode cX2_digestPairsOfCards 12 = .ok (.istore 6, 2) := by decide +kernel
theorem dX2_digestPairsOfCards_14 : decode cX2_digestPairsOfCards 14 = .ok (.iload 6, 2) := by decide +kernel
theorem dX2_digestPairsOfCards_16 : decode cX2_digestPairsOfCards 16 = .ok (.iconst 4, 1) := by decide +kernel
theorem dX2_digestPairsOfCards_17 : decode cX2_digestPairsOfCards 17 = .ok (.if_icmp .ge 69, 3) := by decide +kernel
theorem dX2_digestPairsOfCards_20 : decode cX2_digestPairsOfCards 20 = .ok (.lload_n 3, 1) := by decide +kernel
theorem dX2_digestPairsOfCards_21 : decode cX2_digestPairsOfCards 21 = .ok (.aload_n 0, 1) := by decide +kernel
theorem dX2_digestPairsOfCards_22 : decode cX2_digestPairsOfCards 22 = .ok (.getfield 11, 3) := by decide +kernel
theorem dX2_digestPairsOfCards_25 : decode cX2_digestPairsOfCards 25 = .ok (.iload 5, 2) := by decide +kernel
theorem dX2_digestPairsOfCards_27 : decode cX2_digestPairsOfCards 27 = .ok (.aaload, 1) := by decide +kernel
theorem dX2_digestPairsOfCards_28 : decode cX2_digestPairsOfCards 28 = .ok (.aload_n 0, 1) := by decide +kernel
theorem dX2_digestPairsOfCards_29 : decode cX2_digestPairsOfCards 29 = .ok (.getfield 11, 3) := by decide +kernel
theorem dX2_digestPairsOfCards_32 : decode cX2_digestPairsOfCards 32 = .ok (.iload 6, 2) := by decide +kernel
theorem dX2_digestPairsOfCards_34 : decode cX2_digestPairsOfCards 34 = .ok (.aaload, 1) := by decide +kernel
theorem dX2_digestPairsOfCards_35 : decode cX2_digestPairsOfCards 35 = .ok (.invokevirtual 123, 3) := by decide +kernel
theorem dX2_digestPairsOfCards_38 : decode cX2_digestPairsOfCards 38 = .ok (.ifCond .eq 7, 3) := by decide +kernel
theorem dX2_digestPairsOfCards_41 : decode cX2_digestPairsOfCards 41 = .ok (.lconst 1, 1) := by decide +kernel
theorem dX2_digestPairsOfCards_42 : decode cX2_digestPairsOfCards 42 = .ok (.goto 4, 3) := by decide +kernel
theorem dX2_digestPairsOfCards_45 : decode cX2_digestPairsOfCards 45 = .ok (.lconst 0, 1) := by decide +kernel
theorem dX2_digestPairsOfCards_46 : decode cX2_digestPairsOfCards 46 = .ok (.invokestatic 213, 3) := by decide +kernel
theorem dX2_digestPairsOfCards_49 : decode cX2_digestPairsOfCards 49 = .ok (.lstore_n 3, 1) := by decide +kernel
theorem dX2_digestPairsOfCards_50 : decode cX2_digestPairsOfCards 50 = .ok (.lload_n 3, 1) := by decide +kernel
theorem dX2_digestPairsOfCards_51 : decode cX2_digestPairsOfCards 51 = .ok (.aload_n 0, 1) := by decide +kernel
theorem dX2_digestPairsOfCards_52 : decode cX2_digestPairsOfCards 52 = .ok (.getfield 11, 3) := by decide +kernel
theorem dX2_digestPairsOfCards_55 : decode cX2_digestPairsOfCards 55 = .ok (.iload 5, 2) := by decide +kernel
theorem dX2_digestPairsOfCards_57 : decode cX2_digestPairsOfCards 57 = .ok (.aaload, 1) := by decide +kernel
theorem dX2_digestPairsOfCards_58 : decode cX2_digestPairsOfCards 58 = .ok (.aload_n 0, 1) := by decide +kernel
theorem dX2_digestPairsOfCards_59 : decode cX2_digestPairsOfCards 59 = .ok (.getfield 11, 3) := by decide +kernel
theorem dX2_digestPairsOfCards_62 : decode cX2_digestPairsOfCards 62 = .ok (.iload 6, 2) := by decide +kernel
theorem dX2_digestPairsOfCards_64 : decode cX2_digestPairsOfCards 64 = .ok (.aaload, 1) := by decide +kernel
theorem dX2_digestPairsOfCards_65 : decode cX2_digestPairsOfCards 65 = .ok (.invokevirtual 126, 3) := by decide +kernel
theorem dX2_digestPairsOfCards_68 : decode cX2_digestPairsOfCards 68 = .ok (.ifCond .eq 7, 3) := by decide +kernel
theorem dX2_digestPairsOfCards_71 : decode cX2_digestPairsOfCards 71 = .ok (.lconst 1, 1) := by decide +kernel
theorem dX2_digestPairsOfCards_72 : decode cX2_digestPairsOfCards 72 = .ok (.goto 4, 3) := by decide +kernel
theorem dX2_digestPairsOfCards_75 : decode cX2_digestPairsOfCards 75 = .ok (.lconst 0, 1) := by decide +kernel
theorem dX2_digestPairsOfCards_76 : decode cX2_digestPairsOfCards 76 = .ok (.invokestatic 213, 3) := by decide +kernel
theorem dX2_digestPairsOfCards_79 : decode cX2_digestPairsOfCards 79 = .ok (.lstore_n 3, 1) := by decide +kernel
theorem dX2_digestPairsOfCards_80 : decode cX2_digestPairsOfCards 80 = .ok (.iinc 6 1, 3) := by decide +kernel
theorem dX2_digestPairsOfCards_83 : decode cX2_digestPairsOfCards 83 = .ok (.goto (-69), 3) := by decide +kernel
theorem dX2_digestPairsOfCards_86 : decode cX2_digestPairsOfCards 86 = .ok (.iinc 5 1, 3) := by decide +kernel
theorem dX2_digestPairsOfCards_89 : decode cX2_digestPairsOfCards 89 = .ok (.goto (-84), 3) := by decide +kernel
theorem dX2_digestPairsOfCards_92 : decode cX2_digestPairsOfCards 92 = .ok (.lload_n 3, 1) := by decide +kernel
theorem dX2_digestPairsOfCards_93 : decode cX2_digestPairsOfCards 93 = .ok (.lreturn, 1) := by decide +kernel
theorem dX2_digestDate_0 : decode cX2_digestDate 0 = .ok (.lload_n 1, 1) := by decide +kernel
theorem dX2_digestDate_1 : decode cX2_digestDate 1 = .ok (.lstore 4, 2) := by decide +kernel
theorem dX2_digestDate_3 : decode cX2_digestDate 3 = .ok (.iconst 0, 1) := by decide +kernel
theorem dX2_digestDate_4 : decode cX2_digestDate 4 = .ok (.istore 6, 2) := by decide +kernel
theorem dX2_digestDate_6 : decode cX2_digestDate 6 = .ok (.iload 6, 2) := by decide +kernel
theorem dX2_digestDate_8 : decode cX2_digestDate 8 = .ok (.iconst 4, 1) := by decide +kernel
theorem dX2_digestDate_9 : decode cX2_digestDate 9 = .ok (.if_icmp .ge 23, 3) := by decide +kernel
theorem dX2_digestDate_12 : decode cX2_digestDate 12 = .ok (.lload 4, 2) := by decide +kernel
theorem dX2_digestDate_14 : decode cX2_digestDate 14 = .ok (.aload_n 3, 1) := by decide +kernel
theorem dX2_digestDate_15 : decode cX2_digestDate 15 = .ok (.iload 6, 2) := by decide +kernel
theorem dX2_digestDate_17 : decode cX2_digestDate 17 = .ok (.invokevirtual 171, 3) := by decide +kernel
theorem dX2_digestDate_20 : decode cX2_digestDate 20 = .ok (.i2l, 1) := by decide +kernel
theorem dX2_digestDate_21 : decode cX2_digestDate 21 = .ok (.invokestatic 213, 3) := by decide +kernel
theorem dX2_digestDate_24 : decode cX2_digestDate 24 = .ok (.lstore 4, 2) := by decide +kernel
theorem dX2_digestDate_26 : decode cX2_digestDate 26 = .ok (.iinc 6 1, 3) := by decide +kernel
theorem dX2_digestDate_29 : decode cX2_digestDate 29 = .ok (.goto (-23), 3) := by decide +kernel
theorem dX2_digestDate_32 : decode cX2_digestDate 32 = .ok (.iconst 0, 1) := by decide +kernel
theorem dX2_digestDate_33 : decode cX2_digestDate 33 = .ok (.istore 6, 2) := by decide +kernel
theorem dX2_digestDate_35 : decode cX2_digestDate 35 = .ok (.iload 6, 2) := by decide +kernel
theorem dX2_digestDate_37 : decode cX2_digestDate 37 = .ok (.iconst 4, 1) := by decide +kernel
theorem dX2_digestDate_38 : decode cX2_digestDate 38 = .ok (.if_icmp .ge 79, 3) := by decide +kernel
theorem dX2_digestDate_41 : decode cX2_digestDate 41 = .ok (.lload 4, 2) := by decide +kernel
theorem dX2_digestDate_43 : decode cX2_digestDate 43 = .ok (.aload_n 0, 1) := by decide +kernel
theorem dX2_digestDate_44 : decode cX2_digestDate 44 = .ok (.aload_n 3, 1) := by decide +kernel
theorem dX2_digestDate_45 : decode cX2_digestDate 45 = .ok (.aload_n 0, 1) := by decide +kernel
theorem dX2_digestDate_46 : decode cX2_digestDate 46 = .ok (.getfield 11, 3) := by decide +kernel
theorem dX2_digestDate_49 : decode cX2_digestDate 49 = .ok (.iload 6, 2) := by decide +kernel
theorem dX2_digestDate_51 : decode cX2_digestDate 51 = .ok (.aaload, 1) := by decide +kernel
theorem dX2_digestDate_52 : decode cX2_digestDate 52 = .ok (.iconst 0, 1) := by decide +kernel
theorem dX2_digestDate_53 : decode cX2_digestDate 53 = .ok (.invokevirtual 161, 3) := by decide +kernel
theorem dX2_digestDate_56 : decode cX2_digestDate 56 = .ok (.ifCond .eq 14, 3) := by decide +kernel
theorem dX2_digestDate_59 : decode cX2_digestDate 59 = .ok (.aload_n 0, 1) := by decide +kernel
theorem dX2_digestDate_60 : decode cX2_digestDate 60 = .ok (.getfield 33, 3) := by decide +kernel
theorem dX2_digestDate_63 : decode cX2_digestDate 63 = .ok (.invokevirtual 257, 3) := by decide +kernel
theorem dX2_digestDate_66 : decode cX2_digestDate 66 = .ok (.i2l, 1) := by decide +kernel
theorem dX2_digestDate_67 : decode cX2_digestDate 67 = .ok (.goto 4, 3) := by decide +kernel
theorem dX2_digestDate_70 : decode cX2_digestDate 70 = .ok (.lconst 0, 1) := by decide +kernel
theorem dX2_digestDate_71 : decode cX2_digestDate 71 = .ok (.invokestatic 213, 3) := by decide +kernel
theorem dX2_digestDate_74 : decode cX2_digestDate 74 = .ok (.lstore 4, 2) := by decide +kernel
theorem dX2_digestDate_76 : decode cX2_digestDate 76 = .ok (.lload 4, 2) := by decide +kernel
theorem dX2_digestDate_78 : decode cX2_digestDate 78 = .ok (.aload_n 0, 1) := by decide +kernel
theorem dX2_digestDate_79 : decode cX2_digestDate 79 = .ok (.aload_n 3, 1) := by decide +kernel
theorem dX2_digestDate_80 : decode cX2_digestDate 80 = .ok (.aload_n 0, 1) := by decide +kernel
theorem dX2_digestDate_81 : decode cX2_digestDate 81 = .ok (.getfield 11, 3) := by decide +kernel
theorem dX2_digestDate_84 : decode cX2_digestDate 84 = .ok (.iload 6, 2) := by decide +kernel
theorem dX2_digestDate_86 : decode cX2_digestDate 86 = .ok (.aaload, 1) := by decide +kernel
theorem dX2_digestDate_87 : decode cX2_digestDate 87 = .ok (.iconst 1, 1) := by decide +kernel
theorem dX2_digestDate_88 : decode cX2_digestDate 88 = .ok (.invokevirtual 161, 3) := by decide +kernel
theorem dX2_digestDate_91 : decode cX2_digestDate 91 = .ok (.ifCond .eq 14, 3) := by decide +kernel
theorem dX2_digestDate_94 : decode cX2_digestDate 94 = .ok (.aload_n 0, 1) := by decide +kernel
theorem dX2_digestDate_95 : decode cX2_digestDate 95 = .ok (.getfield 33, 3) := by decide +kernel
theorem dX2_digestDate_98 : decode cX2_digestDate 98 = .ok (.invokevirtual 257, 3) := by decide +kernel
theorem dX2_digestDate_101 : decode cX2_digestDate 101 = .ok (.i2l, 1) := by decide +kernel
theorem dX2_digestDate_102 : decode cX2_digestDate 102 = .ok (.goto 4, 3) := by decide +kernel
theorem dX2_digestDate_105 : decode cX2_digestDate 105 = .ok (.lconst 0, 1) := by decide +kernel
theorem dX2_digestDate_106 : decode cX2_digestDate 106 = .ok (.invokestatic 213, 3) := by decide +kernel
theorem dX2_digestDate_109 : decode cX2_digestDate 109 = .ok (.lstore 4, 2) := by decide +kernel
theorem dX2_digestDate_111 : decode cX2_digestDate 111 = .ok (.iinc 6 1, 3) := by decide +kernel
theorem dX2_digestDate_114 : decode cX2_digestDate 114 = .ok (.goto (-79), 3) := by decide +kernel
theorem dX2_digestDate_117 : decode cX2_digestDate 117 = .ok (.lload 4, 2) := by decide +kernel
theorem dX2_digestDate_119 : decode cX2_digestDate 119 = .ok (.lreturn, 1) := by decide +kernel
theorem dX2_digestPairsOfDates_0 : decode cX2_digestPairsOfDates 0 = .ok (.lload_n 1, 1) := by decide +kernel
theorem dX2_digestPairsOfDates_1 : decode cX2_digestPairsOfDates 1 = .ok (.lstore_n 3, 1) := by decide +kernel
theorem dX2_digestPairsOfDates_2 : decode cX2_digestPairsOfDates 2 = .ok (.iconst 0, 1) := by decide +kernel
theorem dX2_digestPairsOfDates_3 : decode cX2_digestPairsOfDates 3 = .ok (.istore 5, 2) := by decide +kernel
theorem dX2_digestPairsOfDates_5 : decode cX2_digestPairsOfDates 5 = .ok (.iload 5, 2) := by decide +kernel
theorem dX2_digestPairsOfDates_7 : decode cX2_digestPairsOfDates 7 = .ok (.iconst 4, 1) := by decide +kernel
theorem dX2_digestPairsOfDates_8 : decode cX2_digestPairsOfDates 8 = .ok (.if_icmp .ge 78, 3) := by decide +kernel
theorem dX2_digestPairsOfDates_11 : decode cX2_digestPairsOfDates 11 = .ok (.iconst 0, 1) := by decide +kernel
theorem dX2_digestPairsOfDates_12 : decode cX2_digestPairsOfDates 12 = .ok (.istore 6, 2) := by decide +kernel
theorem dX2_digestPairsOfDates_14 : decode cX2_digestPairsOfDates 14 = .ok (.iload 6, 2) := by decide +kernel
theorem dX2_digestPairsOfDates_16 : decode cX2_digestPairsOfDates 16 = .ok (.iconst 4, 1) := by decide +kernel
theorem dX2_digestPairsOfDates_17 : decode cX2_digestPairsOfDates 17 = .ok (.if_icmp .ge 63, 3) := by decide +kernel
theorem dX2_digestPairsOfDates_20 : decode cX2_digestPairsOfDates 20 = .ok (.lload_n 3, 1) := by decide +kernel
theorem dX2_digestPairsOfDates_21 : decode cX2_digestPairsOfDates 21 = .ok (.aload_n 0, 1) := by decide +kernel
theorem dX2_digestPairsOfDates_22 : decode cX2_digestPairsOfDates 22 = .ok (.getfield 20, 3) := by decide +kernel
theorem dX2_digestPairsOfDates_25 : decode cX2_digestPairsOfDates 25 = .ok (.iload 5, 2) := by decide +kernel
theorem dX2_digestPairsOfDates_27 : decode cX2_digestPairsOfDates 27 = .ok (.aaload, 1) := by decide +kernel
theorem dX2_digestPairsOfDates_28 : decode cX2_digestPairsOfDates 28 = .ok (.aload_n 0, 1) := by decide +kernel
theorem dX2_digestPairsOfDates_29 : decode cX2_digestPairsOfDates 29 = .ok (.getfield 20, 3) := by decide +kernel
theorem dX2_digestPairsOfDates_32 : decode cX2_digestPairsOfDates 32 = .ok (.iload 6, 2) := by decide +kernel
theorem dX2_digestPairsOfDates_34 : decode cX2_digestPairsOfDates 34 = .ok (.aaload, 1) := by decide +kernel
theorem dX2_digestPairsOfDates_35 : decode cX2_digestPairsOfDates 35 = .ok (.invokevirtual 181, 3) := by decide +kernel
theorem dX2_digestPairsOfDates_38 : decode cX2_digestPairsOfDates 38 = .ok (.i2l, 1) := by decide +kernel
theorem dX2_digestPairsOfDates_39 : decode cX2_digestPairsOfDates 39 = .ok (.invokestatic 213, 3) := by decide +kernel
theorem dX2_digestPairsOfDates_42 : decode cX2_digestPairsOfDates 42 = .ok (.lstore_n 3, 1) := by decide +kernel
theorem dX2_digestPairsOfDates_43 : decode cX2_digestPairsOfDates 43 = .ok (.lload_n 3, 1) := by decide +kernel
theorem dX2_digestPairsOfDates_44 : decode cX2_digestPairsOfDates 44 = .ok (.aload_n 0, 1) := by decide +kernel
theorem dX2_digestPairsOfDates_45 : decode cX2_digestPairsOfDates 45 = .ok (.aload_n 0, 1) := by decide +kernel
theorem dX2_digestPairsOfDates_46 : decode cX2_digestPairsOfDates 46 = .ok (.getfield 25, 3) := by decide +kernel
theorem dX2_digestPairsOfDates_49 : decode cX2_digestPairsOfDates 49 = .ok (.aload_n 0, 1) := by decide +kernel
theorem dX2_digestPairsOfDates_50 : decode cX2_digestPairsOfDates 50 = .ok (.getfield 20, 3) := by decide +kernel
theorem dX2_digestPairsOfDates_53 : decode cX2_digestPairsOfDates 53 = .ok (.iload 5, 2) := by decide +kernel
theorem dX2_digestPairsOfDates_55 : decode cX2_digestPairsOfDates 55 = .ok (.aaload, 1) := by decide +kernel
theorem dX2_digestPairsOfDates_56 : decode cX2_digestPairsOfDates 56 = .ok (.aload_n 0, 1) := by decide +kernel
theorem dX2_digestPairsOfDates_57 : decode cX2_digestPairsOfDates 57 = .ok (.getfield 20, 3) := by decide +kernel
theorem dX2_digestPairsOfDates_60 : decode cX2_digestPairsOfDates 60 = .ok (.iload 6, 2) := by decide +kernel
theorem dX2_digestPairsOfDates_62 : decode cX2_digestPairsOfDates 62 = .ok (.aaload, 1) := by decide +kernel
theorem dX2_digestPairsOfDates_63 : decode cX2_digestPairsOfDates 63 = .ok (.invokevirtual 173, 3) := by decide +kernel
theorem dX2_digestPairsOfDates_66 : decode cX2_digestPairsOfDates 66 = .ok (.invokevirtual 253, 3) := by decide +kernel
theorem dX2_digestPairsOfDates_69 : decode cX2_digestPairsOfDates 69 = .ok (.i2l, 1) := by decide +kernel
theorem dX2_digestPairsOfDates_70 : decode cX2_digestPairsOfDates 70 = .ok (.invokestatic 213, 3) := by decide +kernel
theorem dX2_digestPairsOfDates_73 : decode cX2_digestPairsOfDates 73 = .ok (.lstore_n 3, 1) := by decide +kernel
theorem dX2_digestPairsOfDates_74 : decode cX2_digestPairsOfDates 74 = .ok (.iinc 6 1, 3) := by decide +kernel
theorem dX2_digestPairsOfDates_77 : decode cX2_digestPairsOfDates 77 = .ok (.goto (-63), 3) := by decide +kernel
theorem dX2_digestPairsOfDates_80 : decode cX2_digestPairsOfDates 80 = .ok (.iinc 5 1, 3) := by decide +kernel
theorem dX2_digestPairsOfDates_83 : decode cX2_digestPairsOfDates 83 = .ok (.goto (-78), 3) := by decide +kernel
theorem dX2_digestPairsOfDates_86 : decode cX2_digestPairsOfDates 86 = .ok (.lload_n 3, 1) := by decide +kernel
theorem dX2_digestPairsOfDates_87 : decode cX2_digestPairsOfDates 87 = .ok (.lreturn, 1) := by decide +kernel
theorem dX2_resultSigns_0 : decode cX2_resultSigns 0 = .ok (.iload_n 1, 1) := by decide +kernel
theorem dX2_resultSigns_1 : decode cX2_resultSigns 1 = .ok (.ifCond .eq 13, 3) := by decide +kernel
theorem dX2_resultSigns_4 : decode cX2_resultSigns 4 = .ok (.aload_n 0, 1) := by decide +kernel
theorem dX2_resultSigns_5 : decode cX2_resultSigns 5 = .ok (.getfield 25, 3) := by decide +kernel
theorem dX2_resultSigns_8 : decode cX2_resultSigns 8 = .ok (.invokevirtual 210, 3) := by decide +kernel
theorem dX2_resultSigns_11 : decode cX2_resultSigns 11 = .ok (.goto 4, 3) := by decide +kernel
theorem dX2_resultSigns_14 : decode cX2_resultSigns 14 = .ok (.iconst 0, 1) := by decide +kernel
theorem dX2_resultSigns_15 : decode cX2_resultSigns 15 = .ok (.ireturn, 1) := by decide +kernel
theorem dX2_howMany_0 : decode cX2_howMany 0 = .ok (.iload_n 1, 1) := by decide +kernel
theorem dX2_howMany_1 : decode cX2_howMany 1 = .ok (.ifCond .eq 12, 3) := by decide +kernel
theorem dX2_howMany_4 : decode cX2_howMany 4 = .ok (.iload_n 0, 1) := by decide +kernel
theorem dX2_howMany_5 : decode cX2_howMany 5 = .ok (.i2l, 1) := by decide +kernel
theorem dX2_howMany_6 : decode cX2_howMany 6 = .ok (.ldc2_w 258, 3) := by decide +kernel
theorem dX2_howMany_9 : decode cX2_howMany 9 = .ok (.lmul, 1) := by decide +kernel
theorem dX2_howMany_10 : decode cX2_howMany 10 = .ok (.goto 5, 3) := by decide +kernel
theorem dX2_howMany_13 : decode cX2_howMany 13 = .ok (.iload_n 0, 1) := by decide +kernel
theorem dX2_howMany_14 : decode cX2_howMany 14 = .ok (.i2l, 1) := by decide +kernel
theorem dX2_howMany_15 : decode cX2_howMany 15 = .ok (.lreturn, 1) := by decide +kernel
theorem dX2_canBeTold_0 : decode cX2_canBeTold 0 = .ok (.lload_n 0, 1) := by decide +kernel
theorem dX2_canBeTold_1 : decode cX2_canBeTold 1 = .ok (.ldc2_w 260, 3) := by decide +kernel
theorem dX2_canBeTold_4 : decode cX2_canBeTold 4 = .ok (.lcmp, 1) := by decide +kernel
theorem dX2_canBeTold_5 : decode cX2_canBeTold 5 = .ok (.ifCond .lt 15, 3) := by decide +kernel
theorem dX2_canBeTold_8 : decode cX2_canBeTold 8 = .ok (.lload_n 0, 1) := by decide +kernel
theorem dX2_canBeTold_9 : decode cX2_canBeTold 9 = .ok (.ldc2_w 262, 3) := by decide +kernel
theorem dX2_canBeTold_12 : decode cX2_canBeTold 12 = .ok (.lcmp, 1) := by decide +kernel
theorem dX2_canBeTold_13 : decode cX2_canBeTold 13 = .ok (.ifCond .gt 7, 3) := by decide +kernel
theorem dX2_canBeTold_16 : decode cX2_canBeTold 16 = .ok (.iconst 1, 1) := by decide +kernel
theorem dX2_canBeTold_17 : decode cX2_canBeTold 17 = .ok (.goto 4, 3) := by decide +kernel
theorem dX2_canBeTold_20 : decode cX2_canBeTold 20 = .ok (.iconst 0, 1) := by decide +kernel
theorem dX2_canBeTold_21 : decode cX2_canBeTold 21 = .ok (.ireturn, 1) := by decide +kernel
theorem dX2_numberInSigns_0 : decode cX2_numberInSigns 0 = .ok (.new 264, 3) := by decide +kernel
theorem dX2_numberInSigns_3 : decode cX2_numberInSigns 3 = .ok (.dup, 1) := by decide +kernel
theorem dX2_numberInSigns_4 : decode cX2_numberInSigns 4 = .ok (.invokespecial 266, 3) := by decide +kernel
theorem dX2_numberInSigns_7 : decode cX2_numberInSigns 7 = .ok (.astore_n 2, 1) := by decide +kernel
theorem dX2_numberInSigns_8 : decode cX2_numberInSigns 8 = .ok (.lload_n 0, 1) := by decide +kernel
theorem dX2_numberInSigns_9 : decode cX2_numberInSigns 9 = .ok (.lconst 0, 1) := by decide +kernel
theorem dX2_numberInSigns_10 : decode cX2_numberInSigns 10 = .ok (.lcmp, 1) := by decide +kernel
theorem dX2_numberInSigns_11 : decode cX2_numberInSigns 11 = .ok (.ifCond .ge 8, 3) := by decide +kernel
theorem dX2_numberInSigns_14 : decode cX2_numberInSigns 14 = .ok (.lload_n 0, 1) := by decide +kernel
theorem dX2_numberInSigns_15 : decode cX2_numberInSigns 15 = .ok (.lneg, 1) := by decide +kernel
theorem dX2_numberInSigns_16 : decode cX2_numberInSigns 16 = .ok (.goto 4, 3) := by decide +kernel
theorem dX2_numberInSigns_19 : decode cX2_numberInSigns 19 = .ok (.lload_n 0, 1) := by decide +kernel
theorem dX2_numberInSigns_20 : decode cX2_numberInSigns 20 = .ok (.lstore_n 3, 1) := by decide +kernel
theorem dX2_numberInSigns_21 : decode cX2_numberInSigns 21 = .ok (.iconst 0, 1) := by decide +kernel
theorem dX2_numberInSigns_22 : decode cX2_numberInSigns 22 = .ok (.istore 5, 2) := by decide +kernel
theorem dX2_numberInSigns_24 : decode cX2_numberInSigns 24 = .ok (.iload 5, 2) := by decide +kernel
theorem dX2_numberInSigns_26 : decode cX2_numberInSigns 26 = .ok (.bipush 11, 2) := by decide +kernel
theorem dX2_numberInSigns_28 : decode cX2_numberInSigns 28 = .ok (.if_icmp .ge 42, 3) := by decide +kernel
theorem dX2_numberInSigns_31 : decode cX2_numberInSigns 31 = .ok (.iload 5, 2) := by decide +kernel
theorem dX2_numberInSigns_33 : decode cX2_numberInSigns 33 = .ok (.ifCond .eq 9, 3) := by decide +kernel
theorem dX2_numberInSigns_36 : decode cX2_numberInSigns 36 = .ok (.lload_n 3, 1) := by decide +kernel
theorem dX2_numberInSigns_37 : decode cX2_numberInSigns 37 = .ok (.lconst 0, 1) := by decide +kernel
theorem dX2_numberInSigns_38 : decode cX2_numberInSigns 38 = .ok (.lcmp, 1) := by decide +kernel
theorem dX2_numberInSigns_39 : decode cX2_numberInSigns 39 = .ok (.ifCond .le 31, 3) := by decide +kernel
theorem dX2_numberInSigns_42 : decode cX2_numberInSigns 42 = .ok (.aload_n 2, 1) := by decide +kernel
theorem dX2_numberInSigns_43 : decode cX2_numberInSigns 43 = .ok (.ldc2_w 267, 3) := by decide +kernel
theorem dX2_numberInSigns_46 : decode cX2_numberInSigns 46 = .ok (.lload_n 3, 1) := by decide +kernel
theorem dX2_numberInSigns_47 : decode cX2_numberInSigns 47 = .ok (.ldc2_w 269, 3) := by decide +kernel
theorem dX2_numberInSigns_50 : decode cX2_numberInSigns 50 = .ok (.lrem, 1) := by decide +kernel
theorem dX2_numberInSigns_51 : decode cX2_numberInSigns 51 = .ok (.ladd, 1) := by decide +kernel
theorem dX2_numberInSigns_52 : decode cX2_numberInSigns 52 = .ok (.l2i, 1) := by decide +kernel
theorem dX2_numberInSigns_53 : decode cX2_numberInSigns 53 = .ok (.i2c, 1) := by decide +kernel
theorem dX2_numberInSigns_54 : decode cX2_numberInSigns 54 = .ok (.invokevirtual 271, 3) := by decide +kernel
theorem dX2_numberInSigns_57 : decode cX2_numberInSigns 57 = .ok (.pop, 1) := by decide +kernel
theorem dX2_numberInSigns_58 : decode cX2_numberInSigns 58 = .ok (.lload_n 3, 1) := by decide +kernel
theorem dX2_numberInSigns_59 : decode cX2_numberInSigns 59 = .ok (.ldc2_w 269, 3) := by decide +kernel
theorem dX2_numberInSigns_62 : decode cX2_numberInSigns 62 = .ok (.ldiv, 1) := by decide +kernel
theorem dX2_numberInSigns_63 : decode cX2_numberInSigns 63 = .ok (.lstore_n 3, 1) := by decide +kernel
theorem dX2_numberInSigns_64 : decode cX2_numberInSigns 64 = .ok (.iinc 5 1, 3) := by decide +kernel
theorem dX2_numberInSigns_67 : decode cX2_numberInSigns 67 = .ok (.goto (-43), 3) := by decide +kernel
theorem dX2_numberInSigns_70 : decode cX2_numberInSigns 70 = .ok (.lload_n 0, 1) := by decide +kernel
theorem dX2_numberInSigns_71 : decode cX2_numberInSigns 71 = .ok (.lconst 0, 1) := by decide +kernel
theorem dX2_numberInSigns_72 : decode cX2_numberInSigns 72 = .ok (.lcmp, 1) := by decide +kernel
theorem dX2_numberInSigns_73 : decode cX2_numberInSigns 73 = .ok (.ifCond .ge 10, 3) := by decide +kernel
theorem dX2_numberInSigns_76 : decode cX2_numberInSigns 76 = .ok (.aload_n 2, 1) := by decide +kernel
theorem dX2_numberInSigns_77 : decode cX2_numberInSigns 77 = .ok (.bipush 45, 2) := by decide +kernel
theorem dX2_numberInSigns_79 : decode cX2_numberInSigns 79 = .ok (.invokevirtual 271, 3) := by decide +kernel
theorem dX2_numberInSigns_82 : decode cX2_numberInSigns 82 = .ok (.pop, 1) := by decide +kernel
theorem dX2_numberInSigns_83 : decode cX2_numberInSigns 83 = .ok (.aload_n 2, 1) := by decide +kernel
theorem dX2_numberInSigns_84 : decode cX2_numberInSigns 84 = .ok (.invokevirtual 275, 3) := by decide +kernel
theorem dX2_numberInSigns_87 : decode cX2_numberInSigns 87 = .ok (.pop, 1) := by decide +kernel
theorem dX2_numberInSigns_88 : decode cX2_numberInSigns 88 = .ok (.aload_n 2, 1) := by decide +kernel
theorem dX2_numberInSigns_89 : decode cX2_numberInSigns 89 = .ok (.invokevirtual 279, 3) := by decide +kernel
theorem dX2_numberInSigns_92 : decode cX2_numberInSigns 92 = .ok (.areturn, 1) := by decide +kernel
theorem dX2_signsOf_0 : decode cX2_signsOf 0 = .ok (.iload_n 0, 1) := by decide +kernel
theorem dX2_signsOf_1 : decode cX2_signsOf 1 = .ok (.ifCond .ge 9, 3) := by decide +kernel
theorem dX2_signsOf_4 : decode cX2_signsOf 4 = .ok (.iload_n 0, 1) := by decide +kernel
theorem dX2_signsOf_5 : decode cX2_signsOf 5 = .ok (.i2l, 1) := by decide +kernel
theorem dX2_signsOf_6 : decode cX2_signsOf 6 = .ok (.lneg, 1) := by decide +kernel
theorem dX2_signsOf_7 : decode cX2_signsOf 7 = .ok (.goto 5, 3) := by decide +kernel
theorem dX2_signsOf_10 : decode cX2_signsOf 10 = .ok (.iload_n 0, 1) := by decide +kernel
theorem dX2_signsOf_11 : decode cX2_signsOf 11 = .ok (.i2l, 1) := by decide +kernel
theorem dX2_signsOf_12 : decode cX2_signsOf 12 = .ok (.lstore_n 1, 1) := by decide +kernel
theorem dX2_signsOf_13 : decode cX2_signsOf 13 = .ok (.iload_n 0, 1) := by decide +kernel
theorem dX2_signsOf_14 : decode cX2_signsOf 14 = .ok (.ifCond .ge 7, 3) := by decide +kernel
theorem dX2_signsOf_17 : decode cX2_signsOf 17 = .ok (.iconst 2, 1) := by decide +kernel
theorem dX2_signsOf_18 : decode cX2_signsOf 18 = .ok (.goto 4, 3) := by decide +kernel
theorem dX2_signsOf_21 : decode cX2_signsOf 21 = .ok (.iconst 1, 1) := by decide +kernel
theorem dX2_signsOf_22 : decode cX2_signsOf 22 = .ok (.istore_n 3, 1) := by decide +kernel
theorem dX2_signsOf_23 : decode cX2_signsOf 23 = .ok (.ldc2_w 269, 3) := by decide +kernel
theorem dX2_signsOf_26 : decode cX2_signsOf 26 = .ok (.lstore 4, 2) := by decide +kernel
theorem dX2_signsOf_28 : decode cX2_signsOf 28 = .ok (.iconst 1, 1) := by decide +kernel
theorem dX2_signsOf_29 : decode cX2_signsOf 29 = .ok (.istore 6, 2) := by decide +kernel
theorem dX2_signsOf_31 : decode cX2_signsOf 31 = .ok (.iload 6, 2) := by decide +kernel
theorem dX2_signsOf_33 : decode cX2_signsOf 33 = .ok (.bipush 11, 2) := by decide +kernel
theorem dX2_signsOf_35 : decode cX2_signsOf 35 = .ok (.if_icmp .ge 27, 3) := by decide +kernel
theorem dX2_signsOf_38 : decode cX2_signsOf 38 = .ok (.lload 4, 2) := by decide +kernel
theorem dX2_signsOf_40 : decode cX2_signsOf 40 = .ok (.lload_n 1, 1) := by decide +kernel
theorem dX2_signsOf_41 : decode cX2_signsOf 41 = .ok (.lcmp, 1) := by decide +kernel
theorem dX2_signsOf_42 : decode cX2_signsOf 42 = .ok (.ifCond .gt 20, 3) := by decide +kernel
theorem dX2_signsOf_45 : decode cX2_signsOf 45 = .ok (.iinc 3 1, 3) := by decide +kernel
theorem dX2_signsOf_48 : decode cX2_signsOf 48 = .ok (.lload 4, 2) := by decide +kernel
theorem dX2_signsOf_50 : decode cX2_signsOf 50 = .ok (.ldc2_w 269, 3) := by decide +kernel
theorem dX2_signsOf_53 : decode cX2_signsOf 53 = .ok (.lmul, 1) := by decide +kernel
theorem dX2_signsOf_54 : decode cX2_signsOf 54 = .ok (.lstore 4, 2) := by decide +kernel
theorem dX2_signsOf_56 : decode cX2_signsOf 56 = .ok (.iinc 6 1, 3) := by decide +kernel
theorem dX2_signsOf_59 : decode cX2_signsOf 59 = .ok (.goto (-28), 3) := by decide +kernel
theorem dX2_signsOf_62 : decode cX2_signsOf 62 = .ok (.iload_n 3, 1) := by decide +kernel
theorem dX2_signsOf_63 : decode cX2_signsOf 63 = .ok (.ireturn, 1) := by decide +kernel
theorem dX2_isInCalendar_0 : decode cX2_isInCalendar 0 = .ok (.iload_n 0, 1) := by decide +kernel
theorem dX2_isInCalendar_1 : decode cX2_isInCalendar 1 = .ok (.sipush 1600, 3) := by decide +kernel
theorem dX2_isInCalendar_4 : decode cX2_isInCalendar 4 = .ok (.if_icmp .lt 21, 3) := by decide +kernel
theorem dX2_isInCalendar_7 : decode cX2_isInCalendar 7 = .ok (.iload_n 0, 1) := by decide +kernel
theorem dX2_isInCalendar_8 : decode cX2_isInCalendar 8 = .ok (.sipush 2400, 3) := by decide +kernel
theorem dX2_isInCalendar_11 : decode cX2_isInCalendar 11 = .ok (.if_icmp .gt 14, 3) := by decide +kernel
theorem dX2_isInCalendar_14 : decode cX2_isInCalendar 14 = .ok (.iload_n 1, 1) := by decide +kernel
theorem dX2_isInCalendar_15 : decode cX2_isInCalendar 15 = .ok (.iconst 1, 1) := by decide +kernel
theorem dX2_isInCalendar_16 : decode cX2_isInCalendar 16 = .ok (.if_icmp .lt 9, 3) := by decide +kernel
theorem dX2_isInCalendar_19 : decode cX2_isInCalendar 19 = .ok (.iload_n 1, 1) := by decide +kernel
theorem dX2_isInCalendar_20 : decode cX2_isInCalendar 20 = .ok (.bipush 12, 2) := by decide +kernel
theorem dX2_isInCalendar_22 : decode cX2_isInCalendar 22 = .ok (.if_icmp .le 5, 3) := by decide +kernel
theorem dX2_isInCalendar_25 : decode cX2_isInCalendar 25 = .ok (.iconst 0, 1) := by decide +kernel
theorem dX2_isInCalendar_26 : decode cX2_isInCalendar 26 = .ok (.ireturn, 1) := by decide +kernel
theorem dX2_isInCalendar_27 : decode cX2_isInCalendar 27 = .ok (.iload_n 2, 1) := by decide +kernel
theorem dX2_isInCalendar_28 : decode cX2_isInCalendar 28 = .ok (.iconst 1, 1) := by decide +kernel
theorem dX2_isInCalendar_29 : decode cX2_isInCalendar 29 = .ok (.if_icmp .lt 16, 3) := by decide +kernel
theorem dX2_isInCalendar_32 : decode cX2_isInCalendar 32 = .ok (.iload_n 2, 1) := by decide +kernel
theorem dX2_isInCalendar_33 : decode cX2_isInCalendar 33 = .ok (.iload_n 0, 1) := by decide +kernel
theorem dX2_isInCalendar_34 : decode cX2_isInCalendar 34 = .ok (.iload_n 1, 1) := by decide +kernel
theorem dX2_isInCalendar_35 : decode cX2_isInCalendar 35 = .ok (.invokestatic 282, 3) := by decide +kernel
theorem dX2_isInCalendar_38 : decode cX2_isInCalendar 38 = .ok (.if_icmp .gt 7, 3) := by decide +kernel
theorem dX2_isInCalendar_41 : decode cX2_isInCalendar 41 = .ok (.iconst 1, 1) := by decide +kernel
theorem dX2_isInCalendar_42 : decode cX2_isInCalendar 42 = .ok (.goto 4, 3) := by decide +kernel
theorem dX2_isInCalendar_45 : decode cX2_isInCalendar 45 = .ok (.iconst 0, 1) := by decide +kernel
theorem dX2_isInCalendar_46 : decode cX2_isInCalendar 46 = .ok (.ireturn, 1) := by decide +kernel
theorem dX2_daysOfMonth_0 : decode cX2_daysOfMonth 0 = .ok (.iload_n 1, 1) := by decide +kernel
theorem dX2_daysOfMonth_1 : decode cX2_daysOfMonth 1 = .ok (.iconst 2, 1) := by decide +kernel
theorem dX2_daysOfMonth_2 : decode cX2_daysOfMonth 2 = .ok (.if_icmp .ne 42, 3) := by decide +kernel
theorem dX2_daysOfMonth_5 : decode cX2_daysOfMonth 5 = .ok (.iload_n 0, 1) := by decide +kernel
theorem dX2_daysOfMonth_6 : decode cX2_daysOfMonth 6 = .ok (.iconst 4, 1) := by decide +kernel
theorem dX2_daysOfMonth_7 : decode cX2_daysOfMonth 7 = .ok (.irem, 1) := by decide +kernel
theorem dX2_daysOfMonth_8 : decode cX2_daysOfMonth 8 = .ok (.ifCond .ne 22, 3) := by decide +kernel
theorem dX2_daysOfMonth_11 : decode cX2_daysOfMonth 11 = .ok (.iload_n 0, 1) := by decide +kernel
theorem dX2_daysOfMonth_12 : decode cX2_daysOfMonth 12 = .ok (.bipush 100, 2) := by decide +kernel
theorem dX2_daysOfMonth_14 : decode cX2_daysOfMonth 14 = .ok (.irem, 1) := by decide +kernel
theorem dX2_daysOfMonth_15 : decode cX2_daysOfMonth 15 = .ok (.ifCond .ne 11, 3) := by decide +kernel
theorem dX2_daysOfMonth_18 : decode cX2_daysOfMonth 18 = .ok (.iload_n 0, 1) := by decide +kernel
theorem dX2_daysOfMonth_19 : decode cX2_daysOfMonth 19 = .ok (.sipush 400, 3) := by decide +kernel
theorem dX2_daysOfMonth_22 : decode cX2_daysOfMonth 22 = .ok (.irem, 1) := by decide +kernel
theorem dX2_daysOfMonth_23 : decode cX2_daysOfMonth 23 = .ok (.ifCond .ne 7, 3) := by decide +kernel
theorem dX2_daysOfMonth_26 : decode cX2_daysOfMonth 26 = .ok (.iconst 1, 1) := by decide +kernel
theorem dX2_daysOfMonth_27 : decode cX2_daysOfMonth 27 = .ok (.goto 4, 3) := by decide +kernel
theorem dX2_daysOfMonth_30 : decode cX2_daysOfMonth 30 = .ok (.iconst 0, 1) := by decide +kernel
theorem dX2_daysOfMonth_31 : decode cX2_daysOfMonth 31 = .ok (.istore_n 2, 1) := by decide +kernel
theorem dX2_daysOfMonth_32 : decode cX2_daysOfMonth 32 = .ok (.iload_n 2, 1) := by decide +kernel
theorem dX2_daysOfMonth_33 : decode cX2_daysOfMonth 33 = .ok (.ifCond .eq 8, 3) := by decide +kernel
theorem dX2_daysOfMonth_36 : decode cX2_daysOfMonth 36 = .ok (.bipush 29, 2) := by decide +kernel
theorem dX2_daysOfMonth_38 : decode cX2_daysOfMonth 38 = .ok (.goto 5, 3) := by decide +kernel
theorem dX2_daysOfMonth_41 : decode cX2_daysOfMonth 41 = .ok (.bipush 28, 2) := by decide +kernel
theorem dX2_daysOfMonth_43 : decode cX2_daysOfMonth 43 = .ok (.ireturn, 1) := by decide +kernel
theorem dX2_daysOfMonth_44 : decode cX2_daysOfMonth 44 = .ok (.iload_n 1, 1) := by decide +kernel
theorem dX2_daysOfMonth_45 : decode cX2_daysOfMonth 45 = .ok (.iconst 4, 1) := by decide +kernel
theorem dX2_daysOfMonth_46 : decode cX2_daysOfMonth 46 = .ok (.if_icmp .eq 21, 3) := by decide +kernel
theorem dX2_daysOfMonth_49 : decode cX2_daysOfMonth 49 = .ok (.iload_n 1, 1) := by decide +kernel
theorem dX2_daysOfMonth_50 : decode cX2_daysOfMonth 50 = .ok (.bipush 6, 2) := by decide +kernel
theorem dX2_daysOfMonth_52 : decode cX2_daysOfMonth 52 = .ok (.if_icmp .eq 15, 3) := by decide +kernel
theorem dX2_daysOfMonth_55 : decode cX2_daysOfMonth 55 = .ok (.iload_n 1, 1) := by decide +kernel
theorem dX2_daysOfMonth_56 : decode cX2_daysOfMonth 56 = .ok (.bipush 9, 2) := by decide +kernel
theorem dX2_daysOfMonth_58 : decode cX2_daysOfMonth 58 = .ok (.if_icmp .eq 9, 3) := by decide +kernel
theorem dX2_daysOfMonth_61 : decode cX2_daysOfMonth 61 = .ok (.iload_n 1, 1) := by decide +kernel
theorem dX2_daysOfMonth_62 : decode cX2_daysOfMonth 62 = .ok (.bipush 11, 2) := by decide +kernel
theorem dX2_daysOfMonth_64 : decode cX2_daysOfMonth 64 = .ok (.if_icmp .ne 8, 3) := by decide +kernel
theorem dX2_daysOfMonth_67 : decode cX2_daysOfMonth 67 = .ok (.bipush 30, 2) := by decide +kernel
theorem dX2_daysOfMonth_69 : decode cX2_daysOfMonth 69 = .ok (.goto 5, 3) := by decide +kernel
theorem dX2_daysOfMonth_72 : decode cX2_daysOfMonth 72 = .ok (.bipush 31, 2) := by decide +kernel
theorem dX2_daysOfMonth_74 : decode cX2_daysOfMonth 74 = .ok (.ireturn, 1) := by decide +kernel
theorem dX2_daysToYear_0 : decode cX2_daysToYear 0 = .ok (.iload_n 0, 1) := by decide +kernel
theorem dX2_daysToYear_1 : decode cX2_daysToYear 1 = .ok (.sipush 1600, 3) := by decide +kernel
theorem dX2_daysToYear_4 : decode cX2_daysToYear 4 = .ok (.isub, 1) := by decide +kernel
theorem dX2_daysToYear_5 : decode cX2_daysToYear 5 = .ok (.istore_n 1, 1) := by decide +kernel
theorem dX2_daysToYear_6 : decode cX2_daysToYear 6 = .ok (.iload_n 1, 1) := by decide +kernel
theorem dX2_daysToYear_7 : decode cX2_daysToYear 7 = .ok (.sipush 365, 3) := by decide +kernel
theorem dX2_daysToYear_10 : decode cX2_daysToYear 10 = .ok (.imul, 1) := by decide +kernel
theorem dX2_daysToYear_11 : decode cX2_daysToYear 11 = .ok (.iload_n 1, 1) := by decide +kernel
theorem dX2_daysToYear_12 : decode cX2_daysToYear 12 = .ok (.iconst 3, 1) := by decide +kernel
theorem dX2_daysToYear_13 : decode cX2_daysToYear 13 = .ok (.iadd, 1) := by decide +kernel
theorem dX2_daysToYear_14 : decode cX2_daysToYear 14 = .ok (.iconst 4, 1) := by decide +kernel
theorem dX2_daysToYear_15 : decode cX2_daysToYear 15 = .ok (.idiv, 1) := by decide +kernel
theorem dX2_daysToYear_16 : decode cX2_daysToYear 16 = .ok (.iadd, 1) := by decide +kernel
theorem dX2_daysToYear_17 : decode cX2_daysToYear 17 = .ok (.iload_n 1, 1) := by decide +kernel
theorem dX2_daysToYear_18 : decode cX2_daysToYear 18 = .ok (.bipush 99, 2) := by decide +kernel
theorem dX2_daysToYear_20 : decode cX2_daysToYear 20 = .ok (.iadd, 1) := by decide +kernel
theorem dX2_daysToYear_21 : decode cX2_daysToYear 21 = .ok (.bipush 100, 2) := by decide +kernel
theorem dX2_daysToYear_23 : decode cX2_daysToYear 23 = .ok (.idiv, 1) := by decide +kernel
theorem dX2_daysToYear_24 : decode cX2_daysToYear 24 = .ok (.isub, 1) := by decide +kernel
theorem dX2_daysToYear_25 : decode cX2_daysToYear 25 = .ok (.iload_n 1, 1) := by decide +kernel
theorem dX2_daysToYear_26 : decode cX2_daysToYear 26 = .ok (.sipush 399, 3) := by decide +kernel
theorem dX2_daysToYear_29 : decode cX2_daysToYear 29 = .ok (.iadd, 1) := by decide +kernel
theorem dX2_daysToYear_30 : decode cX2_daysToYear 30 = .ok (.sipush 400, 3) := by decide +kernel
theorem dX2_daysToYear_33 : decode cX2_daysToYear 33 = .ok (.idiv, 1) := by decide +kernel
theorem dX2_daysToYear_34 : decode cX2_daysToYear 34 = .ok (.iadd, 1) := by decide +kernel
theorem dX2_daysToYear_35 : decode cX2_daysToYear 35 = .ok (.ireturn, 1) := by decide +kernel
theorem dX2_numberOf_0 : decode cX2_numberOf 0 = .ok (.iload_n 0, 1) := by decide +kernel
theorem dX2_numberOf_1 : decode cX2_numberOf 1 = .ok (.invokestatic 286, 3) := by decide +kernel
theorem dX2_numberOf_4 : decode cX2_numberOf 4 = .ok (.ldc_w 289, 3) := by decide +kernel
theorem dX2_numberOf_7 : decode cX2_numberOf 7 = .ok (.isub, 1) := by decide +kernel
theorem dX2_numberOf_8 : decode cX2_numberOf 8 = .ok (.istore_n 3, 1) := by decide +kernel
theorem dX2_numberOf_9 : decode cX2_numberOf 9 = .ok (.iconst 1, 1) := by decide +kernel
theorem dX2_numberOf_10 : decode cX2_numberOf 10 = .ok (.istore 4, 2) := by decide +kernel
theorem dX2_numberOf_12 : decode cX2_numberOf 12 = .ok (.iload 4, 2) := by decide +kernel
theorem dX2_numberOf_14 : decode cX2_numberOf 14 = .ok (.iload_n 1, 1) := by decide +kernel
theorem dX2_numberOf_15 : decode cX2_numberOf 15 = .ok (.if_icmp .ge 18, 3) := by decide +kernel
theorem dX2_numberOf_18 : decode cX2_numberOf 18 = .ok (.iload_n 3, 1) := by decide +kernel
theorem dX2_numberOf_19 : decode cX2_numberOf 19 = .ok (.iload_n 0, 1) := by decide +kernel
theorem dX2_numberOf_20 : decode cX2_numberOf 20 = .ok (.iload 4, 2) := by decide +kernel
theorem dX2_numberOf_22 : decode cX2_numberOf 22 = .ok (.invokestatic 282, 3) := by decide +kernel
theorem dX2_numberOf_25 : decode cX2_numberOf 25 = .ok (.iadd, 1) := by decide +kernel
theorem dX2_numberOf_26 : decode cX2_numberOf 26 = .ok (.istore_n 3, 1) := by decide +kernel
theorem dX2_numberOf_27 : decode cX2_numberOf 27 = .ok (.iinc 4 1, 3) := by decide +kernel
theorem dX2_numberOf_30 : decode cX2_numberOf 30 = .ok (.goto (-18), 3) := by decide +kernel
theorem dX2_numberOf_33 : decode cX2_numberOf 33 = .ok (.iload_n 3, 1) := by decide +kernel
theorem dX2_numberOf_34 : decode cX2_numberOf 34 = .ok (.iload_n 2, 1) := by decide +kernel
theorem dX2_numberOf_35 : decode cX2_numberOf 35 = .ok (.iadd, 1) := by decide +kernel
theorem dX2_numberOf_36 : decode cX2_numberOf 36 = .ok (.iconst 1, 1) := by decide +kernel
theorem dX2_numberOf_37 : decode cX2_numberOf 37 = .ok (.isub, 1) := by decide +kernel
theorem dX2_numberOf_38 : decode cX2_numberOf 38 = .ok (.ireturn, 1) := by decide +kernel
theorem dX2_dayKept_0 : decode cX2_dayKept 0 = .ok (.iload_n 2, 1) := by decide +kernel
theorem dX2_dayKept_1 : decode cX2_dayKept 1 = .ok (.iload_n 0, 1) := by decide +kernel
theorem dX2_dayKept_2 : decode cX2_dayKept 2 = .ok (.iload_n 1, 1) := by decide +kernel
theorem dX2_dayKept_3 : decode cX2_dayKept 3 = .ok (.invokestatic 282, 3) := by decide +kernel
theorem dX2_dayKept_6 : decode cX2_dayKept 6 = .ok (.invokestatic 290, 3) := by decide +kernel
theorem dX2_dayKept_9 : decode cX2_dayKept 9 = .ok (.ireturn, 1) := by decide +kernel
theorem dX3_init_0 : decode cX3_init 0 = .ok (.aload_n 0, 1) := by decide +kernel
theorem dX3_init_1 : decode cX3_init 1 = .ok (.invokespecial 1, 3) := by decide +kernel
theorem dX3_init_4 : decode cX3_init 4 = .ok (.return_, 1) := by decide +kernel
theorem dX4_init_0 : decode cX4_init 0 = .ok (.aload_n 0, 1) := by decide +kernel
theorem dX4_init_1 : decode cX4_init 1 = .ok (.invokespecial 1, 3) := by decide +kernel
theorem dX4_init_4 : decode cX4_init 4 = .ok (.aload_n 0, 1) := by decide +kernel
theorem dX4_init_5 : decode cX4_init 5 = .ok (.iconst 4, 1) := by decide +kernel
theorem dX4_init_6 : decode cX4_init 6 = .ok (.iconst 3, 1) := by decide +kernel
theorem dX4_init_7 : decode cX4_init 7 = .ok (.multianewarray 9 2, 4) := by decide +kernel
theorem dX4_init_11 : decode cX4_init 11 = .ok (.putfield 11, 3) := by decide +kernel
theorem dX4_init_14 : decode cX4_init 14 = .ok (.aload_n 0, 1) := by decide +kernel
theorem dX4_init_15 : decode cX4_init 15 = .ok (.new 14, 3) := by decide +kernel
theorem dX4_init_18 : decode cX4_init 18 = .ok (.dup, 1) := by decide +kernel
theorem dX4_init_19 : decode cX4_init 19 = .ok (.invokespecial 16, 3) := by decide +kernel
theorem dX4_init_22 : decode cX4_init 22 = .ok (.putfield 17, 3) := by decide +kernel
theorem dX4_init_25 : decode cX4_init 25 = .ok (.aload_n 0, 1) := by decide +kernel
theorem dX4_init_26 : decode cX4_init 26 = .ok (.iconst 4, 1) := by decide +kernel
theorem dX4_init_27 : decode cX4_init 27 = .ok (.anewarray 21, 3) := by decide +kernel
theorem dX4_init_30 : decode cX4_init 30 = .ok (.putfield 23, 3) := by decide +kernel
theorem dX4_init_33 : decode cX4_init 33 = .ok (.iconst 0, 1) := by decide +kernel
theorem dX4_init_34 : decode cX4_init 34 = .ok (.istore_n 1, 1) := by decide +kernel
theorem dX4_init_35 : decode cX4_init 35 = .ok (.iload_n 1, 1) := by decide +kernel
theorem dX4_init_36 : decode cX4_init 36 = .ok (.iconst 4, 1) := by decide +kernel
theorem dX4_init_37 : decode cX4_init 37 = .ok (.if_icmp .ge 32, 3) := by decide +kernel
theorem dX4_init_40 : decode cX4_init 40 = .ok (.aload_n 0, 1) := by decide +kernel
theorem dX4_init_41 : decode cX4_init 41 = .ok (.getfield 23, 3) := by decide +kernel
theorem dX4_init_44 : decode cX4_init 44 = .ok (.iload_n 1, 1) := by decide +kernel
theorem dX4_init_45 : decode cX4_init 45 = .ok (.iconst 3, 1) := by decide +kernel
theorem dX4_init_46 : decode cX4_init 46 = .ok (.newarray .int, 2) := by decide +kernel
theorem dX4_init_48 : decode cX4_init 48 = .ok (.dup, 1) := by decide +kernel
theorem dX4_init_49 : decode cX4_init 49 = .ok (.iconst 0, 1) := by decide +kernel
theorem dX4_init_50 : decode cX4_init 50 = .ok (.sipush 2000, 3) := by decide +kernel
theorem dX4_init_53 : decode cX4_init 53 = .ok (.iastore, 1) := by decide +kernel
theorem dX4_init_54 : decode cX4_init 54 = .ok (.dup, 1) := by decide +kernel
theorem dX4_init_55 : decode cX4_init 55 = .ok (.iconst 1, 1) := by decide +kernel
theorem dX4_init_56 : decode cX4_init 56 = .ok (.iconst 1, 1) := by decide +kernel
theorem dX4_init_57 : decode cX4_init 57 = .ok (.iastore, 1) := by decide +kernel
theorem dX4_init_58 : decode cX4_init 58 = .ok (.dup, 1) := by decide +kernel
theorem dX4_init_59 : decode cX4_init 59 = .ok (.iconst 2, 1) := by decide +kernel
theorem dX4_init_60 : decode cX4_init 60 = .ok (.iconst 1, 1) := by decide +kernel
theorem dX4_init_61 : decode cX4_init 61 = .ok (.iastore, 1) := by decide +kernel
theorem dX4_init_62 : decode cX4_init 62 = .ok (.aastore, 1) := by decide +kernel
theorem dX4_init_63 : decode cX4_init 63 = .ok (.iinc 1 1, 3) := by decide +kernel
theorem dX4_init_66 : decode cX4_init 66 = .ok (.goto (-31), 3) := by decide +kernel
theorem dX4_init_69 : decode cX4_init 69 = .ok (.return_, 1) := by decide +kernel
theorem dX4_thrown_0 : decode cX4_thrown 0 = .ok (.aload_n 0, 1) := by decide +kernel
theorem dX4_thrown_1 : decode cX4_thrown 1 = .ok (.getfield 26, 3) := by decide +kernel
theorem dX4_thrown_4 : decode cX4_thrown 4 = .ok (.ireturn, 1) := by decide +kernel
theorem dX4_one_0 : decode cX4_one 0 = .ok (.iload_n 0, 1) := by decide +kernel
theorem dX4_one_1 : decode cX4_one 1 = .ok (.ifCond .eq 7, 3) := by decide +kernel
theorem dX4_one_4 : decode cX4_one 4 = .ok (.iconst 1, 1) := by decide +kernel
theorem dX4_one_5 : decode cX4_one 5 = .ok (.goto 4, 3) := by decide +kernel
theorem dX4_one_8 : decode cX4_one 8 = .ok (.iconst 0, 1) := by decide +kernel
theorem dX4_one_9 : decode cX4_one 9 = .ok (.ireturn, 1) := by decide +kernel
theorem dX4_isIn_0 : decode cX4_isIn 0 = .ok (.lload_n 0, 1) := by decide +kernel
theorem dX4_isIn_1 : decode cX4_isIn 1 = .ok (.lload_n 2, 1) := by decide +kernel
theorem dX4_isIn_2 : decode cX4_isIn 2 = .ok (.lcmp, 1) := by decide +kernel
theorem dX4_isIn_3 : decode cX4_isIn 3 = .ok (.ifCond .lt 14, 3) := by decide +kernel
theorem dX4_isIn_6 : decode cX4_isIn 6 = .ok (.lload_n 0, 1) := by decide +kernel
theorem dX4_isIn_7 : decode cX4_isIn 7 = .ok (.lload 4, 2) := by decide +kernel
theorem dX4_isIn_9 : decode cX4_isIn 9 = .ok (.lcmp, 1) := by decide +kernel
theorem dX4_isIn_10 : decode cX4_isIn 10 = .ok (.ifCond .gt 7, 3) := by decide +kernel
theorem dX4_isIn_13 : decode cX4_isIn 13 = .ok (.iconst 1, 1) := by decide +kernel
theorem dX4_isIn_14 : decode cX4_isIn 14 = .ok (.goto 4, 3) := by decide +kernel
theorem dX4_isIn_17 : decode cX4_isIn 17 = .ok (.iconst 0, 1) := by decide +kernel
theorem dX4_isIn_18 : decode cX4_isIn 18 = .ok (.ireturn, 1) := by decide +kernel
theorem dX4_isNone_0 : decode cX4_isNone 0 = .ok (.iload_n 0, 1) := by decide +kernel
theorem dX4_isNone_1 : decode cX4_isNone 1 = .ok (.ifCond .lt 8, 3) := by decide +kernel
theorem dX4_isNone_4 : decode cX4_isNone 4 = .ok (.iload_n 0, 1) := by decide +kernel
theorem dX4_isNone_5 : decode cX4_isNone 5 = .ok (.iconst 4, 1) := by decide +kernel
theorem dX4_isNone_6 : decode cX4_isNone 6 = .ok (.if_icmp .lt 7, 3) := by decide +kernel
theorem dX4_isNone_9 : decode cX4_isNone 9 = .ok (.iconst 1, 1) := by decide +kernel
theorem dX4_isNone_10 : decode cX4_isNone 10 = .ok (.goto 4, 3) := by decide +kernel
theorem dX4_isNone_13 : decode cX4_isNone 13 = .ok (.iconst 0, 1) := by decide +kernel
theorem dX4_isNone_14 : decode cX4_isNone 14 = .ok (.ireturn, 1) := by decide +kernel
theorem dX4_stops_0 : decode cX4_stops 0 = .ok (.aload_n 0, 1) := by decide +kernel
theorem dX4_stops_1 : decode cX4_stops 1 = .ok (.iload_n 1, 1) := by decide +kernel
theorem dX4_stops_2 : decode cX4_stops 2 = .ok (.ifCond .eq 7, 3) := by decide +kernel
theorem dX4_stops_5 : decode cX4_stops 5 = .ok (.iconst 1, 1) := by decide +kernel
theorem dX4_stops_6 : decode cX4_stops 6 = .ok (.goto 12, 3) := by decide +kernel
theorem dX4_stops_9 : decode cX4_stops 9 = .ok (.iload_n 2, 1) := by decide +kernel
theorem dX4_stops_10 : decode cX4_stops 10 = .ok (.ifCond .eq 7, 3) := by decide +kernel
theorem dX4_stops_13 : decode cX4_stops 13 = .ok (.iconst 2, 1) := by decide +kernel
theorem dX4_stops_14 : decode cX4_stops 14 = .ok (.goto 4, 3) := by decide +kernel
theorem dX4_stops_17 : decode cX4_stops 17 = .ok (.iconst 0, 1) := by decide +kernel
theorem dX4_stops_18 : decode cX4_stops 18 = .ok (.putfield 26, 3) := by decide +kernel
theorem dX4_stops_21 : decode cX4_stops 21 = .ok (.aload_n 0, 1) := by decide +kernel
theorem dX4_stops_22 : decode cX4_stops 22 = .ok (.getfield 26, 3) := by decide +kernel
theorem dX4_stops_25 : decode cX4_stops 25 = .ok (.ifCond .le 7, 3) := by decide +kernel
theorem dX4_stops_28 : decode cX4_stops 28 = .ok (.iconst 1, 1) := by decide +kernel
theorem dX4_stops_29 : decode cX4_stops 29 = .ok (.goto 4, 3) := by decide +kernel
theorem dX4_stops_32 : decode cX4_stops 32 = .ok (.iconst 0, 1) := by decide +kernel
theorem dX4_stops_33 : decode cX4_stops 33 = .ok (.ireturn, 1) := by decide +kernel
theorem dX4_refuse_0 : decode cX4_refuse 0 = .ok (.aload_n 0, 1) := by decide +kernel
theorem dX4_refuse_1 : decode cX4_refuse 1 = .ok (.dup, 1) := by decide +kernel
theorem dX4_refuse_2 : decode cX4_refuse 2 = .ok (.getfield 30, 3) := by decide +kernel
theorem dX4_refuse_5 : decode cX4_refuse 5 = .ok (.iconst 1, 1) := by decide +kernel
theorem dX4_refuse_6 : decode cX4_refuse 6 = .ok (.iadd, 1) := by decide +kernel
theorem dX4_refuse_7 : decode cX4_refuse 7 = .ok (.putfield 30, 3) := by decide +kernel
theorem dX4_refuse_10 : decode cX4_refuse 10 = .ok (.bipush (-9), 2) := by decide +kernel
theorem dX4_refuse_12 : decode cX4_refuse 12 = .ok (.ireturn, 1) := by decide +kernel
theorem dX4_span_0 : decode cX4_span 0 = .ok (.lload_n 0, 1) := by decide +kernel
theorem dX4_span_1 : decode cX4_span 1 = .ok (.ldc2_w 33, 3) := by decide +kernel
theorem dX4_span_4 : decode cX4_span 4 = .ok (.ldc2_w 35, 3) := by decide +kernel
theorem dX4_span_7 : decode cX4_span 7 = .ok (.invokestatic 37, 3) := by decide +kernel
theorem dX4_span_10 : decode cX4_span 10 = .ok (.ifCond .eq 34, 3) := by decide +kernel
theorem dX4_span_13 : decode cX4_span 13 = .ok (.lload_n 2, 1) := by decide +kernel
theorem dX4_span_14 : decode cX4_span 14 = .ok (.ldc2_w 33, 3) := by decide +kernel
theorem dX4_span_17 : decode cX4_span 17 = .ok (.ldc2_w 35, 3) := by decide +kernel
theorem dX4_span_20 : decode cX4_span 20 = .ok (.invokestatic 37, 3) := by decide +kernel
theorem dX4_span_23 : decode cX4_span 23 = .ok (.ifCond .eq 21, 3) := by decide +kernel
theorem dX4_span_26 : decode cX4_span 26 = .ok (.lload 4, 2) := by decide +kernel
theorem dX4_span_28 : decode cX4_span 28 = .ok (.ldc2_w 33, 3) := by decide +kernel
theorem dX4_span_31 : decode cX4_span 31 = .ok (.ldc2_w 35, 3) := by decide +kernel
theorem dX4_span_34 : decode cX4_span 34 = .ok (.invokestatic 37, 3) := by decide +kernel
theorem dX4_span_37 : decode cX4_span 37 = .ok (.ifCond .eq 7, 3) := by decide +kernel
theorem dX4_span_40 : decode cX4_span 40 = .ok (.iconst 1, 1) := by decide +kernel
theorem dX4_span_41 : decode cX4_span 41 = .ok (.goto 4, 3) := by decide +kernel
theorem dX4_span_44 : decode cX4_span 44 = .ok (.iconst 0, 1) := by decide +kernel
theorem dX4_span_45 : decode cX4_span 45 = .ok (.istore 6, 2) := by decide +kernel
theorem dX4_span_47 : decode cX4_span 47 = .ok (.iload 6, 2) := by decide +kernel
theorem dX4_span_49 : decode cX4_span 49 = .ok (.ifCond .eq 25, 3) := by decide +kernel
theorem dX4_span_52 : decode cX4_span 52 = .ok (.iconst 3, 1) := by decide +kernel
theorem dX4_span_53 : decode cX4_span 53 = .ok (.newarray .int, 2) := by decide +kernel
theorem dX4_span_55 : decode cX4_span 55 = .ok (.dup, 1) := by decide +kernel
theorem dX4_span_56 : decode cX4_span 56 = .ok (.iconst 0, 1) := by decide +kernel
theorem dX4_span_57 : decode cX4_span 57 = .ok (.lload_n 0, 1) := by decide +kernel
theorem dX4_span_58 : decode cX4_span 58 = .ok (.l2i, 1) := by decide +kernel
theorem dX4_span_59 : decode cX4_span 59 = .ok (.iastore, 1) := by decide +kernel
theorem dX4_span_60 : decode cX4_span 60 = .ok (.dup, 1) := by decide +kernel
theorem dX4_span_61 : decode cX4_span 61 = .ok (.iconst 1, 1) := by decide +kernel
theorem dX4_span_62 : decode cX4_span 62 = .ok (.lload_n 2, 1) := by decide +kernel
theorem dX4_span_63 : decode cX4_span 63 = .ok (.l2i, 1) := by decide +kernel
theorem dX4_span_64 : decode cX4_span 64 = .ok (.iastore, 1) := by decide +kernel
theorem dX4_span_65 : decode cX4_span 65 = .ok (.dup, 1) := by decide +kernel
theorem dX4_span_66 : decode cX4_span 66 = .ok (.iconst 2, 1) := by decide +kernel
theorem dX4_span_67 : decode cX4_span 67 = .ok (.lload 4, 2) := by decide +kernel
theorem dX4_span_69 : decode cX4_span 69 = .ok (.l2i, 1) := by decide +kernel
theorem dX4_span_70 : decode cX4_span 70 = .ok (.iastore, 1) := by decide +kernel
theorem dX4_span_71 : decode cX4_span 71 = .ok (.goto 4, 3) := by decide +kernel
theorem dX4_span_74 : decode cX4_span 74 = .ok (.aconst_null, 1) := by decide +kernel
theorem dX4_span_75 : decode cX4_span 75 = .ok (.areturn, 1) := by decide +kernel
theorem dX4_isSame_0 : decode cX4_isSame 0 = .ok (.aload_n 0, 1) := by decide +kernel
theorem dX4_isSame_1 : decode cX4_isSame 1 = .ok (.iconst 0, 1) := by decide +kernel
theorem dX4_isSame_2 : decode cX4_isSame 2 = .ok (.iaload, 1) := by decide +kernel
theorem dX4_isSame_3 : decode cX4_isSame 3 = .ok (.aload_n 1, 1) := by decide +kernel
theorem dX4_isSame_4 : decode cX4_isSame 4 = .ok (.iconst 0, 1) := by decide +kernel
theorem dX4_isSame_5 : decode cX4_isSame 5 = .ok (.iaload, 1) := by decide +kernel
theorem dX4_isSame_6 : decode cX4_isSame 6 = .ok (.if_icmp .ne 25, 3) := by decide +kernel
theorem dX4_isSame_9 : decode cX4_isSame 9 = .ok (.aload_n 0, 1) := by decide +kernel
theorem dX4_isSame_10 : decode cX4_isSame 10 = .ok (.iconst 1, 1) := by decide +kernel
theorem dX4_isSame_11 : decode cX4_isSame 11 = .ok (.iaload, 1) := by decide +kernel
theorem dX4_isSame_12 : decode cX4_isSame 12 = .ok (.aload_n 1, 1) := by decide +kernel
theorem dX4_isSame_13 : decode cX4_isSame 13 = .ok (.iconst 1, 1) := by decide +kernel
theorem dX4_isSame_14 : decode cX4_isSame 14 = .ok (.iaload, 1) := by decide +kernel
theorem dX4_isSame_15 : decode cX4_isSame 15 = .ok (.if_icmp .ne 16, 3) := by decide +kernel
theorem dX4_isSame_18 : decode cX4_isSame 18 = .ok (.aload_n 0, 1) := by decide +kernel
theorem dX4_isSame_19 : decode cX4_isSame 19 = .ok (.iconst 2, 1) := by decide +kernel
theorem dX4_isSame_20 : decode cX4_isSame 20 = .ok (.iaload, 1) := by decide +kernel
theorem dX4_isSame_21 : decode cX4_isSame 21 = .ok (.aload_n 1, 1) := by decide +kernel
theorem dX4_isSame_22 : decode cX4_isSame 22 = .ok (.iconst 2, 1) := by decide +kernel
theorem dX4_isSame_23 : decode cX4_isSame 23 = .ok (.iaload, 1) := by decide +kernel
theorem dX4_isSame_24 : decode cX4_isSame 24 = .ok (.if_icmp .ne 7, 3) := by decide +kernel
theorem dX4_isSame_27 : decode cX4_isSame 27 = .ok (.iconst 1, 1) := by decide +kernel
theorem dX4_isSame_28 : decode cX4_isSame 28 = .ok (.goto 4, 3) := by decide +kernel
theorem dX4_isSame_31 : decode cX4_isSame 31 = .ok (.iconst 0, 1) := by decide +kernel
theorem dX4_isSame_32 : decode cX4_isSame 32 = .ok (.ireturn, 1) := by decide +kernel
theorem dX4_total_0 : decode cX4_total 0 = .ok (.ldc2_w 41, 3) := by decide +kernel
theorem dX4_total_3 : decode cX4_total 3 = .ok (.aload_n 0, 1) := by decide +kernel
theorem dX4_total_4 : decode cX4_total 4 = .ok (.iconst 0, 1) := by decide +kernel
theorem dX4_total_5 : decode cX4_total 5 = .ok (.iaload, 1) := by decide +kernel
theorem dX4_total_6 : decode cX4_total 6 = .ok (.i2l, 1) := by decide +kernel
theorem dX4_total_7 : decode cX4_total 7 = .ok (.lmul, 1) := by decide +kernel
theorem dX4_total_8 : decode cX4_total 8 = .ok (.aload_n 0, 1) := by decide +kernel
theorem dX4_total_9 : decode cX4_total 9 = .ok (.iconst 1, 1) := by decide +kernel
theorem dX4_total_10 : decode cX4_total 10 = .ok (.iaload, 1) := by decide +kernel
theorem dX4_total_11 : decode cX4_total 11 = .ok (.i2l, 1) := by decide +kernel
theorem dX4_total_12 : decode cX4_total 12 = .ok (.ladd, 1) := by decide +kernel
theorem dX4_total_13 : decode cX4_total 13 = .ok (.lreturn, 1) := by decide +kernel
theorem dX4_isAlike_0 : decode cX4_isAlike 0 = .ok (.aload_n 0, 1) := by decide +kernel
theorem dX4_isAlike_1 : decode cX4_isAlike 1 = .ok (.invokestatic 43, 3) := by decide +kernel
theorem dX4_isAlike_4 : decode cX4_isAlike 4 = .ok (.aload_n 1, 1) := by decide +kernel
theorem dX4_isAlike_5 : decode cX4_isAlike 5 = .ok (.invokestatic 43, 3) := by decide +kernel
theorem dX4_isAlike_8 : decode cX4_isAlike 8 = .ok (.lcmp, 1) := by decide +kernel
theorem dX4_isAlike_9 : decode cX4_isAlike 9 = .ok (.ifCond .ne 16, 3) := by decide +kernel
theorem dX4_isAlike_12 : decode cX4_isAlike 12 = .ok (.aload_n 0, 1) := by decide +kernel
theorem dX4_isAlike_13 : decode cX4_isAlike 13 = .ok (.iconst 2, 1) := by decide +kernel
theorem dX4_isAlike_14 : decode cX4_isAlike 14 = .ok (.iaload, 1) := by decide +kernel
theorem dX4_isAlike_15 : decode cX4_isAlike 15 = .ok (.aload_n 1, 1) := by decide +kernel
theorem dX4_isAlike_16 : decode cX4_isAlike 16 = .ok (.iconst 2, 1) := by decide +kernel
theorem dX4_isAlike_17 : decode cX4_isAlike 17 = .ok (.iaload, 1) := by decide +kernel
theorem dX4_isAlike_18 : decode cX4_isAlike 18 = .ok (.if_icmp .ne 7, 3) := by decide +kernel
theorem dX4_isAlike_21 : decode cX4_isAlike 21 = .ok (.iconst 1, 1) := by decide +kernel
theorem dX4_isAlike_22 : decode cX4_isAlike 22 = .ok (.goto 4, 3) := by decide +kernel
theorem dX4_isAlike_25 : decode cX4_isAlike 25 = .ok (.iconst 0, 1) := by decide +kernel
theorem dX4_isAlike_26 : decode cX4_isAlike 26 = .ok (.ireturn, 1) := by decide +kernel
theorem dX4_sum_0 : decode cX4_sum 0 = .ok (.aload_n 0, 1) := by decide +kernel
theorem dX4_sum_1 : decode cX4_sum 1 = .ok (.iconst 0, 1) := by decide +kernel
theorem dX4_sum_2 : decode cX4_sum 2 = .ok (.iaload, 1) := by decide +kernel
theorem dX4_sum_3 : decode cX4_sum 3 = .ok (.i2l, 1) := by decide +kernel
theorem dX4_sum_4 : decode cX4_sum 4 = .ok (.lload_n 1, 1) := by decide +kernel
theorem dX4_sum_5 : decode cX4_sum 5 = .ok (.aload_n 3, 1) := by decide +kernel
theorem dX4_sum_6 : decode cX4_sum 6 = .ok (.iconst 0, 1) := by decide +kernel
theorem dX4_sum_7 : decode cX4_sum 7 = .ok (.iaload, 1) := by decide +kernel
theorem dX4_sum_8 : decode cX4_sum 8 = .ok (.i2l, 1) := by decide +kernel
theorem dX4_sum_9 : decode cX4_sum 9 = .ok (.lmul, 1) := by decide +kernel
theorem dX4_sum_10 : decode cX4_sum 10 = .ok (.ladd, 1) := by decide +kernel
theorem dX4_sum_11 : decode cX4_sum 11 = .ok (.aload_n 0, 1) := by decide +kernel
theorem dX4_sum_12 : decode cX4_sum 12 = .ok (.iconst 1, 1) := by decide +kernel
theorem dX4_sum_13 : decode cX4_sum 13 = .ok (.iaload, 1) := by decide +kernel
theorem dX4_sum_14 : decode cX4_sum 14 = .ok (.i2l, 1) := by decide +kernel
theorem dX4_sum_15 : decode cX4_sum 15 = .ok (.lload_n 1, 1) := by decide +kernel
theorem dX4_sum_16 : decode cX4_sum 16 = .ok (.aload_n 3, 1) := by decide +kernel
theorem dX4_sum_17 : decode cX4_sum 17 = .ok (.iconst 1, 1) := by decide +kernel
theorem dX4_sum_18 : decode cX4_sum 18 = .ok (.iaload, 1) := by decide +kernel
theorem dX4_sum_19 : decode cX4_sum 19 = .ok (.i2l, 1) := by decide +kernel
theorem dX4_sum_20 : decode cX4_sum 20 = .ok (.lmul, 1) := by decide +kernel
theorem dX4_sum_21 : decode cX4_sum 21 = .ok (.ladd, 1) := by decide +kernel
theorem dX4_sum_22 : decode cX4_sum 22 = .ok (.aload_n 0, 1) := by decide +kernel
theorem dX4_sum_23 : decode cX4_sum 23 = .ok (.iconst 2, 1) := by decide +kernel
theorem dX4_sum_24 : decode cX4_sum 24 = .ok (.iaload, 1) := by decide +kernel
theorem dX4_sum_25 : decode cX4_sum 25 = .ok (.i2l, 1) := by decide +kernel
theorem dX4_sum_26 : decode cX4_sum 26 = .ok (.lload_n 1, 1) := by decide +kernel
theorem dX4_sum_27 : decode cX4_sum 27 = .ok (.aload_n 3, 1) := by decide +kernel
theorem dX4_sum_28 : decode cX4_sum 28 = .ok (.iconst 2, 1) := by decide +kernel
theorem dX4_sum_29 : decode cX4_sum 29 = .ok (.iaload, 1) := by decide +kernel
theorem dX4_sum_30 : decode cX4_sum 30 = .ok (.i2l, 1) := by decide +kernel
theorem dX4_sum_31 : decode cX4_sum 31 = .ok (.lmul, 1) := by decide +kernel
theorem dX4_sum_32 : decode cX4_sum 32 = .ok (.ladd, 1) := by decide +kernel
theorem dX4_sum_33 : decode cX4_sum 33 = .ok (.invokestatic 47, 3) := by decide +kernel
theorem dX4_sum_36 : decode cX4_sum 36 = .ok (.areturn, 1) := by decide +kernel
theorem dX4_tidied_0 : decode cX4_tidied 0 = .ok (.aload_n 0, 1) := by decide +kernel
theorem dX4_tidied_1 : decode cX4_tidied 1 = .ok (.invokestatic 43, 3) := by decide +kernel
theorem dX4_tidied_4 : decode cX4_tidied 4 = .ok (.ldc2_w 41, 3) := by decide +kernel
theorem dX4_tidied_7 : decode cX4_tidied 7 = .ok (.ldiv, 1) := by decide +kernel
theorem dX4_tidied_8 : decode cX4_tidied 8 = .ok (.aload_n 0, 1) := by decide +kernel
theorem dX4_tidied_9 : decode cX4_tidied 9 = .ok (.invokestatic 43, 3) := by decide +kernel
theorem dX4_tidied_12 : decode cX4_tidied 12 = .ok (.ldc2_w 41, 3) := by decide +kernel
theorem dX4_tidied_15 : decode cX4_tidied 15 = .ok (.lrem, 1) := by decide +kernel
theorem dX4_tidied_16 : decode cX4_tidied 16 = .ok (.aload_n 0, 1) := by decide +kernel
theorem dX4_tidied_17 : decode cX4_tidied 17 = .ok (.iconst 2, 1) := by decide +kernel
theorem dX4_tidied_18 : decode cX4_tidied 18 = .ok (.iaload, 1) := by decide +kernel
theorem dX4_tidied_19 : decode cX4_tidied 19 = .ok (.i2l, 1) := by decide +kernel
theorem dX4_tidied_20 : decode cX4_tidied 20 = .ok (.invokestatic 47, 3) := by decide +kernel
theorem dX4_tidied_23 : decode cX4_tidied 23 = .ok (.areturn, 1) := by decide +kernel
theorem dX4_nothing_0 : decode cX4_nothing 0 = .ok (.iconst 3, 1) := by decide +kernel
theorem dX4_nothing_1 : decode cX4_nothing 1 = .ok (.newarray .int, 2) := by decide +kernel
theorem dX4_nothing_3 : decode cX4_nothing 3 = .ok (.areturn, 1) := by decide +kernel
theorem dX4_opposed_0 : decode cX4_opposed 0 = .ok (.invokestatic 51, 3) := by decide +kernel
theorem dX4_opposed_3 : decode cX4_opposed 3 = .ok (.ldc2_w 55, 3) := by decide +kernel
theorem dX4_opposed_6 : decode cX4_opposed 6 = .ok (.aload_n 0, 1) := by decide +kernel
theorem dX4_opposed_7 : decode cX4_opposed 7 = .ok (.invokestatic 57, 3) := by decide +kernel
theorem dX4_opposed_10 : decode cX4_opposed 10 = .ok (.areturn, 1) := by decide +kernel
theorem dX4_told_0 : decode cX4_told 0 = .ok (.aload_n 0, 1) := by decide +kernel
theorem dX4_told_1 : decode cX4_told 1 = .ok (.ifnonnull 8, 3) := by decide +kernel
theorem dX4_told_4 : decode cX4_told 4 = .ok (.ldc 61, 2) := by decide +kernel
theorem dX4_told_6 : decode cX4_told 6 = .ok (.goto 46, 3) := by decide +kernel
theorem dX4_told_9 : decode cX4_told 9 = .ok (.new 63, 3) := by decide +kernel
theorem dX4_told_12 : decode cX4_told 12 = .ok (.dup, 1) := by decide +kernel
theorem dX4_told_13 : decode cX4_told 13 = .ok (.invokespecial 65, 3) := by decide +kernel
theorem dX4_told_16 : decode cX4_told 16 = .ok (.aload_n 0, 1) := by decide +kernel
theorem dX4_told_17 : decode cX4_told 17 = .ok (.iconst 0, 1) := by decide +kernel
theorem dX4_told_18 : decode cX4_told 18 = .ok (.iaload, 1) := by decide +kernel
theorem dX4_told_19 : decode cX4_told 19 = .ok (.invokevirtual 66, 3) := by decide +kernel
theorem dX4_told_22 : decode cX4_told 22 = .ok (.ldc 70, 2) := by decide +kernel
theorem dX4_told_24 : decode cX4_told 24 = .ok (.invokevirtual 72, 3) := by decide +kernel
theorem dX4_told_27 : decode cX4_told 27 = .ok (.aload_n 0, 1) := by decide +kernel
theorem dX4_told_28 : decode cX4_told 28 = .ok (.iconst 1, 1) := by decide +kernel
theorem dX4_told_29 : decode cX4_told 29 = .ok (.iaload, 1) := by decide +kernel
theorem dX4_told_30 : decode cX4_told 30 = .ok (.invokevirtual 66, 3) := by decide +kernel
theorem dX4_told_33 : decode cX4_told 33 = .ok (.ldc 75, 2) := by decide +kernel
theorem dX4_told_35 : decode cX4_told 35 = .ok (.invokevirtual 72, 3) := by decide +kernel
theorem dX4_told_38 : decode cX4_told 38 = .ok (.aload_n 0, 1) := by decide +kernel
theorem dX4_told_39 : decode cX4_told 39 = .ok (.iconst 2, 1) := by decide +kernel
theorem dX4_told_40 : decode cX4_told 40 = .ok (.iaload, 1) := by decide +kernel
theorem dX4_told_41 : decode cX4_told 41 = .ok (.invokevirtual 66, 3) := by decide +kernel
theorem dX4_told_44 : decode cX4_told 44 = .ok (.ldc 77, 2) := by decide +kernel
theorem dX4_told_46 : decode cX4_told 46 = .ok (.invokevirtual 72, 3) := by decide +kernel
theorem dX4_told_49 : decode cX4_told 49 = .ok (.invokevirtual 79, 3) := by decide +kernel
theorem dX4_told_52 : decode cX4_told 52 = .ok (.areturn, 1) := by decide +kernel
theorem dX4_addedUp_0 : decode cX4_addedUp 0 = .ok (.invokestatic 51, 3) := by decide +kernel
theorem dX4_addedUp_3 : decode cX4_addedUp 3 = .ok (.astore_n 2, 1) := by decide +kernel
theorem dX4_addedUp_4 : decode cX4_addedUp 4 = .ok (.iconst 0, 1) := by decide +kernel
theorem dX4_addedUp_5 : decode cX4_addedUp 5 = .ok (.istore_n 3, 1) := by decide +kernel
theorem dX4_addedUp_6 : decode cX4_addedUp 6 = .ok (.iload_n 3, 1) := by decide +kernel
theorem dX4_addedUp_7 : decode cX4_addedUp 7 = .ok (.iload_n 1, 1) := by decide +kernel
theorem dX4_addedUp_8 : decode cX4_addedUp 8 = .ok (.if_icmp .ge 20, 3) := by decide +kernel
theorem dX4_addedUp_11 : decode cX4_addedUp 11 = .ok (.aload_n 2, 1) := by decide +kernel
theorem dX4_addedUp_12 : decode cX4_addedUp 12 = .ok (.ifnull 16, 3) := by decide +kernel
theorem dX4_addedUp_15 : decode cX4_addedUp 15 = .ok (.aload_n 2, 1) := by decide +kernel
theorem dX4_addedUp_16 : decode cX4_addedUp 16 = .ok (.lconst 1, 1) := by decide +kernel
theorem dX4_addedUp_17 : decode cX4_addedUp 17 = .ok (.aload_n 0, 1) := by decide +kernel
theorem dX4_addedUp_18 : decode cX4_addedUp 18 = .ok (.invokestatic 57, 3) := by decide +kernel
theorem dX4_addedUp_21 : decode cX4_addedUp 21 = .ok (.astore_n 2, 1) := by decide +kernel
theorem dX4_addedUp_22 : decode cX4_addedUp 22 = .ok (.iinc 3 1, 3) := by decide +kernel
theorem dX4_addedUp_25 : decode cX4_addedUp 25 = .ok (.goto (-19), 3) := by decide +kernel
theorem dX4_addedUp_28 : decode cX4_addedUp 28 = .ok (.aload_n 2, 1) := by decide +kernel
theorem dX4_addedUp_29 : decode cX4_addedUp 29 = .ok (.areturn, 1) := by decide +kernel
theorem dX4_get_0 : decode cX4_get 0 = .ok (.aload_n 2, 1) := by decide +kernel
theorem dX4_get_1 : decode cX4_get 1 = .ok (.ifnonnull 8, 3) := by decide +kernel
theorem dX4_get_4 : decode cX4_get 4 = .ok (.aload_n 0, 1) := by decide +kernel
theorem dX4_get_5 : decode cX4_get 5 = .ok (.invokevirtual 83, 3) := by decide +kernel
theorem dX4_get_8 : decode cX4_get 8 = .ok (.ireturn, 1) := by decide +kernel
theorem dX4_get_9 : decode cX4_get 9 = .ok (.aload_n 0, 1) := by decide +kernel
theorem dX4_get_10 : decode cX4_get 10 = .ok (.getfield 11, 3) := by decide +kernel
theorem dX4_get_13 : decode cX4_get 13 = .ok (.iload_n 1, 1) := by decide +kernel
theorem dX4_get_14 : decode cX4_get 14 = .ok (.aaload, 1) := by decide +kernel
theorem dX4_get_15 : decode cX4_get 15 = .ok (.aload_n 2, 1) := by decide +kernel
theorem dX4_get_16 : decode cX4_get 16 = .ok (.invokestatic 87, 3) := by decide +kernel
theorem dX4_get_19 : decode cX4_get 19 = .ok (.ifCond .ne 7, 3) := by decide +kernel
theorem dX4_get_22 : decode cX4_get 22 = .ok (.iconst 1, 1) := by decide +kernel
theorem dX4_get_23 : decode cX4_get 23 = .ok (.goto 4, 3) := by decide +kernel
theorem dX4_get_26 : decode cX4_get 26 = .ok (.iconst 0, 1) := by decide +kernel
theorem dX4_get_27 : decode cX4_get 27 = .ok (.invokestatic 91, 3) := by decide +kernel
theorem dX4_get_30 : decode cX4_get 30 = .ok (.istore_n 3, 1) := by decide +kernel
theorem dX4_get_31 : decode cX4_get 31 = .ok (.aload_n 0, 1) := by decide +kernel
theorem dX4_get_32 : decode cX4_get 32 = .ok (.getfield 11, 3) := by decide +kernel
theorem dX4_get_35 : decode cX4_get 35 = .ok (.iload_n 1, 1) := by decide +kernel
theorem dX4_get_36 : decode cX4_get 36 = .ok (.iconst 3, 1) := by decide +kernel
theorem dX4_get_37 : decode cX4_get 37 = .ok (.newarray .int, 2) := by decide +kernel
theorem dX4_get_39 : decode cX4_get 39 = .ok (.dup, 1) := by decide +kernel
theorem dX4_get_40 : decode cX4_get 40 = .ok (.iconst 0, 1) := by decide +kernel
theorem dX4_get_41 : decode cX4_get 41 = .ok (.aload_n 2, 1) := by decide +kernel
theorem dX4_get_42 : decode cX4_get 42 = .ok (.iconst 0, 1) := by decide +kernel
theorem dX4_get_43 : decode cX4_get 43 = .ok (.iaload, 1) := by decide +kernel
theorem dX4_get_44 : decode cX4_get 44 = .ok (.iastore, 1) := by decide +kernel
theorem dX4_get_45 : decode cX4_get 45 = .ok (.dup, 1) := by decide +kernel
theorem dX4_get_46 : decode cX4_get 46 = .ok (.iconst 1, 1) := by decide +kernel
theorem dX4_get_47 : decode cX4_get 47 = .ok (.aload_n 2, 1) := by decide +kernel
theorem dX4_get_48 : decode cX4_get 48 = .ok (.iconst 1, 1) := by decide +kernel
theorem dX4_get_49 : decode cX4_get 49 = .ok (.iaload, 1) := by decide +kernel
theorem dX4_get_50 : decode cX4_get 50 = .ok (.iastore, 1) := by decide +kernel
theorem dX4_get_51 : decode cX4_get 51 = .ok (.dup, 1) := by decide +kernel
theorem dX4_get_52 : decode cX4_get 52 = .ok (.iconst 2, 1) := by decide +kernel
theorem dX4_get_53 : decode cX4_get 53 = .ok (.aload_n 2, 1) := by decide +kernel
theorem dX4_get_54 : decode cX4_get 54 = .ok (.iconst 2, 1) := by decide +kernel
theorem dX4_get_55 : decode cX4_get 55 = .ok (.iaload, 1) := by decide +kernel
theorem dX4_get_56 : decode cX4_get 56 = .ok (.iastore, 1) := by decide +kernel
theorem dX4_get_57 : decode cX4_get 57 = .ok (.aastore, 1) := by decide +kernel
theorem dX4_get_58 : decode cX4_get 58 = .ok (.iload_n 3, 1) := by decide +kernel
theorem dX4_get_59 : decode cX4_get 59 = .ok (.ireturn, 1) := by decide +kernel
theorem dX4_written_0 : decode cX4_written 0 = .ok (.aload_n 0, 1) := by decide +kernel
theorem dX4_written_1 : decode cX4_written 1 = .ok (.iload_n 1, 1) := by decide +kernel
theorem dX4_written_2 : decode cX4_written 2 = .ok (.invokestatic 95, 3) := by decide +kernel
theorem dX4_written_5 : decode cX4_written 5 = .ok (.iconst 0, 1) := by decide +kernel
theorem dX4_written_6 : decode cX4_written 6 = .ok (.invokevirtual 99, 3) := by decide +kernel
theorem dX4_written_9 : decode cX4_written 9 = .ok (.ifCond .eq 7, 3) := by decide +kernel
theorem dX4_written_12 : decode cX4_written 12 = .ok (.iconst 0, 1) := by decide +kernel
theorem dX4_written_13 : decode cX4_written 13 = .ok (.goto 16, 3) := by decide +kernel
theorem dX4_written_16 : decode cX4_written 16 = .ok (.aload_n 0, 1) := by decide +kernel
theorem dX4_written_17 : decode cX4_written 17 = .ok (.iload_n 1, 1) := by decide +kernel
theorem dX4_written_18 : decode cX4_written 18 = .ok (.lload_n 2, 1) := by decide +kernel
theorem dX4_written_19 : decode cX4_written 19 = .ok (.lload 4, 2) := by decide +kernel
theorem dX4_written_21 : decode cX4_written 21 = .ok (.lload 6, 2) := by decide +kernel
theorem dX4_written_23 : decode cX4_written 23 = .ok (.invokestatic 47, 3) := by decide +kernel
theorem dX4_written_26 : decode cX4_written 26 = .ok (.invokevirtual 103, 3) := by decide +kernel
theorem dX4_written_29 : decode cX4_written 29 = .ok (.ireturn, 1) := by decide +kernel
theorem dX4_write_0 : decode cX4_write 0 = .ok (.aload_n 0, 1) := by decide +kernel
theorem dX4_write_1 : decode cX4_write 1 = .ok (.iload_n 1, 1) := by decide +kernel
theorem dX4_write_2 : decode cX4_write 2 = .ok (.iload_n 2, 1) := by decide +kernel
theorem dX4_write_3 : decode cX4_write 3 = .ok (.i2l, 1) := by decide +kernel
theorem dX4_write_4 : decode cX4_write 4 = .ok (.iload_n 3, 1) := by decide +kernel
theorem dX4_write_5 : decode cX4_write 5 = .ok (.i2l, 1) := by decide +kernel
theorem dX4_write_6 : decode cX4_write 6 = .ok (.iload 4, 2) := by decide +kernel
theorem dX4_write_8 : decode cX4_write 8 = .ok (.i2l, 1) := by decide +kernel
theorem dX4_write_9 : decode cX4_write 9 = .ok (.invokevirtual 107, 3) := by decide +kernel
theorem dX4_write_12 : decode cX4_write 12 = .ok (.ireturn, 1) := by decide +kernel
theorem dX4_ofYears_0 : decode cX4_ofYears 0 = .ok (.aload_n 0, 1) := by decide +kernel
theorem dX4_ofYears_1 : decode cX4_ofYears 1 = .ok (.iload_n 1, 1) := by decide +kernel
theorem dX4_ofYears_2 : decode cX4_ofYears 2 = .ok (.iload_n 2, 1) := by decide +kernel
theorem dX4_ofYears_3 : decode cX4_ofYears 3 = .ok (.i2l, 1) := by decide +kernel
theorem dX4_ofYears_4 : decode cX4_ofYears 4 = .ok (.lconst 0, 1) := by decide +kernel
theorem dX4_ofYears_5 : decode cX4_ofYears 5 = .ok (.lconst 0, 1) := by decide +kernel
theorem dX4_ofYears_6 : decode cX4_ofYears 6 = .ok (.invokevirtual 107, 3) := by decide +kernel
theorem dX4_ofYears_9 : decode cX4_ofYears 9 = .ok (.ireturn, 1) := by decide +kernel
theorem dX4_ofMonths_0 : decode cX4_ofMonths 0 = .ok (.aload_n 0, 1) := by decide +kernel
theorem dX4_ofMonths_1 : decode cX4_ofMonths 1 = .ok (.iload_n 1, 1) := by decide +kernel
theorem dX4_ofMonths_2 : decode cX4_ofMonths 2 = .ok (.lconst 0, 1) := by decide +kernel
theorem dX4_ofMonths_3 : decode cX4_ofMonths 3 = .ok (.iload_n 2, 1) := by decide +kernel
theorem dX4_ofMonths_4 : decode cX4_ofMonths 4 = .ok (.i2l, 1) := by decide +kernel
theorem dX4_ofMonths_5 : decode cX4_ofMonths 5 = .ok (.lconst 0, 1) := by decide +kernel
theorem dX4_ofMonths_6 : decode cX4_ofMonths 6 = .ok (.invokevirtual 107, 3) := by decide +kernel
theorem dX4_ofMonths_9 : decode cX4_ofMonths 9 = .ok (.ireturn, 1) := by decide +kernel
theorem dX4_ofWeeks_0 : decode cX4_ofWeeks 0 = .ok (.aload_n 0, 1) := by decide +kernel
theorem dX4_ofWeeks_1 : decode cX4_ofWeeks 1 = .ok (.iload_n 1, 1) := by decide +kernel
theorem dX4_ofWeeks_2 : decode cX4_ofWeeks 2 = .ok (.lconst 0, 1) := by decide +kernel
theorem dX4_ofWeeks_3 : decode cX4_ofWeeks 3 = .ok (.lconst 0, 1) := by decide +kernel
theorem dX4_ofWeeks_4 : decode cX4_ofWeeks 4 = .ok (.ldc2_w 111, 3) := by decide +kernel
theorem dX4_ofWeeks_7 : decode cX4_ofWeeks 7 = .ok (.iload_n 2, 1) := by decide +kernel
theorem dX4_ofWeeks_8 : decode cX4_ofWeeks 8 = .ok (.i2l, 1) := by decide +kernel
theorem dX4_ofWeeks_9 : decode cX4_ofWeeks 9 = .ok (.lmul, 1) := by decide +kernel
theorem dX4_ofWeeks_10 : decode cX4_ofWeeks 10 = .ok (.invokevirtual 107, 3) := by decide +kernel
theorem dX4_ofWeeks_13 : decode cX4_ofWeeks 13 = .ok (.ireturn, 1) := by decide +kernel
theorem dX4_ofDays_0 : decode cX4_ofDays 0 = .ok (.aload_n 0, 1) := by decide +kernel
theorem dX4_ofDays_1 : decode cX4_ofDays 1 = .ok (.iload_n 1, 1) := by decide +kernel
theorem dX4_ofDays_2 : decode cX4_ofDays 2 = .ok (.lconst 0, 1) := by decide +kernel
theorem dX4_ofDays_3 : decode cX4_ofDays 3 = .ok (.lconst 0, 1) := by decide +kernel
theorem dX4_ofDays_4 : decode cX4_ofDays 4 = .ok (.iload_n 2, 1) := by decide +kernel
theorem dX4_ofDays_5 : decode cX4_ofDays 5 = .ok (.i2l, 1) := by decide +kernel
theorem dX4_ofDays_6 : decode cX4_ofDays 6 = .ok (.invokevirtual 107, 3) := by decide +kernel
theorem dX4_ofDays_9 : decode cX4_ofDays 9 = .ok (.ireturn, 1) := by decide +kernel
theorem dX4_change_0 : decode cX4_change 0 = .ok (.aload_n 0, 1) := by decide +kernel
theorem dX4_change_1 : decode cX4_change 1 = .ok (.iload_n 1, 1) := by decide +kernel
theorem dX4_change_2 : decode cX4_change 2 = .ok (.invokestatic 95, 3) := by decide +kernel
theorem dX4_change_5 : decode cX4_change 5 = .ok (.iload_n 2, 1) := by decide +kernel
theorem dX4_change_6 : decode cX4_change 6 = .ok (.i2l, 1) := by decide +kernel
theorem dX4_change_7 : decode cX4_change 7 = .ok (.lconst 0, 1) := by decide +kernel
theorem dX4_change_8 : decode cX4_change 8 = .ok (.ldc2_w 113, 3) := by decide +kernel
theorem dX4_change_11 : decode cX4_change 11 = .ok (.invokestatic 37, 3) := by decide +kernel
theorem dX4_change_14 : decode cX4_change 14 = .ok (.ifCond .ne 7, 3) := by decide +kernel
theorem dX4_change_17 : decode cX4_change 17 = .ok (.iconst 1, 1) := by decide +kernel
theorem dX4_change_18 : decode cX4_change 18 = .ok (.goto 4, 3) := by decide +kernel
theorem dX4_change_21 : decode cX4_change 21 = .ok (.iconst 0, 1) := by decide +kernel
theorem dX4_change_22 : decode cX4_change 22 = .ok (.invokevirtual 99, 3) := by decide +kernel
theorem dX4_change_25 : decode cX4_change 25 = .ok (.ifCond .eq 5, 3) := by decide +kernel
theorem dX4_change_28 : decode cX4_change 28 = .ok (.iconst 0, 1) := by decide +kernel
theorem dX4_change_29 : decode cX4_change 29 = .ok (.ireturn, 1) := by decide +kernel
theorem dX4_change_30 : decode cX4_change 30 = .ok (.iconst 3, 1) := by decide +kernel
theorem dX4_change_31 : decode cX4_change 31 = .ok (.newarray .int, 2) := by decide +kernel
theorem dX4_change_33 : decode cX4_change 33 = .ok (.dup, 1) := by decide +kernel
theorem dX4_change_34 : decode cX4_change 34 = .ok (.iconst 0, 1) := by decide +kernel
theorem dX4_change_35 : decode cX4_change 35 = .ok (.aload_n 0, 1) := by decide +kernel
theorem dX4_change_36 : decode cX4_change 36 = .ok (.getfield 11, 3) := by decide +kernel
theorem dX4_change_39 : decode cX4_change 39 = .ok (.iload_n 1, 1) := by decide +kernel
theorem dX4_change_40 : decode cX4_change 40 = .ok (.aaload, 1) := by decide +kernel
theorem dX4_change_41 : decode cX4_change 41 = .ok (.iconst 0, 1) := by decide +kernel
theorem dX4_change_42 : decode cX4_change 42 = .ok (.iaload, 1) := by decide +kernel
theorem dX4_change_43 : decode cX4_change 43 = .ok (.iastore, 1) := by decide +kernel
theorem dX4_change_44 : decode cX4_change 44 = .ok (.dup, 1) := by decide +kernel
theorem dX4_change_45 : decode cX4_change 45 = .ok (.iconst 1, 1) := by decide +kernel
theorem dX4_change_46 : decode cX4_change 46 = .ok (.aload_n 0, 1) := by decide +kernel
theorem dX4_change_47 : decode cX4_change 47 = .ok (.getfield 11, 3) := by decide +kernel
theorem dX4_change_50 : decode cX4_change 50 = .ok (.iload_n 1, 1) := by decide +kernel
theorem dX4_change_51 : decode cX4_change 51 = .ok (.aaload, 1) := by decide +kernel
theorem dX4_change_52 : decode cX4_change 52 = .ok (.iconst 1, 1) := by decide +kernel
theorem dX4_change_53 : decode cX4_change 53 = .ok (.iaload, 1) := by decide +kernel
theorem dX4_change_54 : decode cX4_change 54 = .ok (.iastore, 1) := by decide +kernel
theorem dX4_change_55 : decode cX4_change 55 = .ok (.dup, 1) := by decide +kernel
theorem dX4_change_56 : decode cX4_change 56 = .ok (.iconst 2, 1) := by decide +kernel
theorem dX4_change_57 : decode cX4_change 57 = .ok (.aload_n 0, 1) := by decide +kernel
theorem dX4_change_58 : decode cX4_change 58 = .ok (.getfield 11, 3) := by decide +kernel
theorem dX4_change_61 : decode cX4_change 61 = .ok (.iload_n 1, 1) := by decide +kernel
theorem dX4_change_62 : decode cX4_change 62 = .ok (.aaload, 1) := by decide +kernel
theorem dX4_change_63 : decode cX4_change 63 = .ok (.iconst 2, 1) := by decide +kernel
theorem dX4_change_64 : decode cX4_change 64 = .ok (.iaload, 1) := by decide +kernel
theorem dX4_change_65 : decode cX4_change 65 = .ok (.iastore, 1) := by decide +kernel
theorem dX4_change_66 : decode cX4_change 66 = .ok (.astore 4, 2) := by decide +kernel
theorem dX4_change_68 : decode cX4_change 68 = .ok (.aload 4, 2) := by decide +kernel
theorem dX4_change_70 : decode cX4_change 70 = .ok (.iload_n 2, 1) := by decide +kernel
theorem dX4_change_71 : decode cX4_change 71 = .ok (.iload_n 3, 1) := by decide +kernel
theorem dX4_change_72 : decode cX4_change 72 = .ok (.iastore, 1) := by decide +kernel
theorem dX4_change_73 : decode cX4_change 73 = .ok (.aload_n 0, 1) := by decide +kernel
theorem dX4_change_74 : decode cX4_change 74 = .ok (.iload_n 1, 1) := by decide +kernel
theorem dX4_change_75 : decode cX4_change 75 = .ok (.aload 4, 2) := by decide +kernel
theorem dX4_change_77 : decode cX4_change 77 = .ok (.invokevirtual 103, 3) := by decide +kernel
theorem dX4_change_80 : decode cX4_change 80 = .ok (.ireturn, 1) := by decide +kernel
theorem dX4_copy_0 : decode cX4_copy 0 = .ok (.aload_n 0, 1) := by decide +kernel
theorem dX4_copy_1 : decode cX4_copy 1 = .ok (.iload_n 1, 1) := by decide +kernel
theorem dX4_copy_2 : decode cX4_copy 2 = .ok (.invokestatic 95, 3) := by decide +kernel
theorem dX4_copy_5 : decode cX4_copy 5 = .ok (.ifCond .ne 10, 3) := by decide +kernel
theorem dX4_copy_8 : decode cX4_copy 8 = .ok (.iload_n 2, 1) := by decide +kernel
theorem dX4_copy_9 : decode cX4_copy 9 = .ok (.invokestatic 95, 3) := by decide +kernel
theorem dX4_copy_12 : decode cX4_copy 12 = .ok (.ifCond .eq 7, 3) := by decide +kernel
theorem dX4_copy_15 : decode cX4_copy 15 = .ok (.iconst 1, 1) := by decide +kernel
theorem dX4_copy_16 : decode cX4_copy 16 = .ok (.goto 4, 3) := by decide +kernel
theorem dX4_copy_19 : decode cX4_copy 19 = .ok (.iconst 0, 1) := by decide +kernel
theorem dX4_copy_20 : decode cX4_copy 20 = .ok (.iconst 0, 1) := by decide +kernel
theorem dX4_copy_21 : decode cX4_copy 21 = .ok (.invokevirtual 99, 3) := by decide +kernel
theorem dX4_copy_24 : decode cX4_copy 24 = .ok (.ifCond .eq 7, 3) := by decide +kernel
theorem dX4_copy_27 : decode cX4_copy 27 = .ok (.iconst 0, 1) := by decide +kernel
theorem dX4_copy_28 : decode cX4_copy 28 = .ok (.goto 14, 3) := by decide +kernel
theorem dX4_copy_31 : decode cX4_copy 31 = .ok (.aload_n 0, 1) := by decide +kernel
theorem dX4_copy_32 : decode cX4_copy 32 = .ok (.iload_n 1, 1) := by decide +kernel
theorem dX4_copy_33 : decode cX4_copy 33 = .ok (.aload_n 0, 1) := by decide +kernel
theorem dX4_copy_34 : decode cX4_copy 34 = .ok (.getfield 11, 3) := by decide +kernel
theorem dX4_copy_37 : decode cX4_copy 37 = .ok (.iload_n 2, 1) := by decide +kernel
theorem dX4_copy_38 : decode cX4_copy 38 = .ok (.aaload, 1) := by decide +kernel
theorem dX4_copy_39 : decode cX4_copy 39 = .ok (.invokevirtual 103, 3) := by decide +kernel
theorem dX4_copy_42 : decode cX4_copy 42 = .ok (.ireturn, 1) := by decide +kernel
theorem dX4_swap_0 : decode cX4_swap 0 = .ok (.aload_n 0, 1) := by decide +kernel
theorem dX4_swap_1 : decode cX4_swap 1 = .ok (.iload_n 1, 1) := by decide +kernel
theorem dX4_swap_2 : decode cX4_swap 2 = .ok (.invokestatic 95, 3) := by decide +kernel
theorem dX4_swap_5 : decode cX4_swap 5 = .ok (.ifCond .ne 10, 3) := by decide +kernel
theorem dX4_swap_8 : decode cX4_swap 8 = .ok (.iload_n 2, 1) := by decide +kernel
theorem dX4_swap_9 : decode cX4_swap 9 = .ok (.invokestatic 95, 3) := by decide +kernel
theorem dX4_swap_12 : decode cX4_swap 12 = .ok (.ifCond .eq 7, 3) := by decide +kernel
theorem dX4_swap_15 : decode cX4_swap 15 = .ok (.iconst 1, 1) := by decide +kernel
theorem dX4_swap_16 : decode cX4_swap 16 = .ok (.goto 4, 3) := by decide +kernel
theorem dX4_swap_19 : decode cX4_swap 19 = .ok (.iconst 0, 1) := by decide +kernel
theorem dX4_swap_20 : decode cX4_swap 20 = .ok (.iconst 0, 1) := by decide +kernel
theorem dX4_swap_21 : decode cX4_swap 21 = .ok (.invokevirtual 99, 3) := by decide +kernel
theorem dX4_swap_24 : decode cX4_swap 24 = .ok (.ifCond .eq 5, 3) := by decide +kernel
theorem dX4_swap_27 : decode cX4_swap 27 = .ok (.iconst 0, 1) := by decide +kernel
theorem dX4_swap_28 : decode cX4_swap 28 = .ok (.ireturn, 1) := by decide +kernel
theorem dX4_swap_29 : decode cX4_swap 29 = .ok (.aload_n 0, 1) := by decide +kernel
theorem dX4_swap_30 : decode cX4_swap 30 = .ok (.getfield 11, 3) := by decide +kernel
theorem dX4_swap_33 : decode cX4_swap 33 = .ok (.iload_n 1, 1) := by decide +kernel
theorem dX4_swap_34 : decode cX4_swap 34 = .ok (.aaload, 1) := by decide +kernel
theorem dX4_swap_35 : decode cX4_swap 35 = .ok (.astore_n 3, 1) := by decide +kernel
theorem dX4_swap_36 : decode cX4_swap 36 = .ok (.aload_n 0, 1) := by decide +kernel
theorem dX4_swap_37 : decode cX4_swap 37 = .ok (.iload_n 1, 1) := by decide +kernel
theorem dX4_swap_38 : decode cX4_swap 38 = .ok (.aload_n 0, 1) := by decide +kernel
theorem dX4_swap_39 : decode cX4_swap 39 = .ok (.getfield 11, 3) := by decide +kernel
theorem dX4_swap_42 : decode cX4_swap 42 = .ok (.iload_n 2, 1) := by decide +kernel
theorem dX4_swap_43 : decode cX4_swap 43 = .ok (.aaload, 1) := by decide +kernel
theorem dX4_swap_44 : decode cX4_swap 44 = .ok (.invokevirtual 103, 3) := by decide +kernel
theorem dX4_swap_47 : decode cX4_swap 47 = .ok (.istore 4, 2) := by decide +kernel
theorem dX4_swap_49 : decode cX4_swap 49 = .ok (.aload_n 0, 1) := by decide +kernel
theorem dX4_swap_50 : decode cX4_swap 50 = .ok (.iload_n 2, 1) := by decide +kernel
theorem dX4_swap_51 : decode cX4_swap 51 = .ok (.aload_n 3, 1) := by decide +kernel
theorem dX4_swap_52 : decode cX4_swap 52 = .ok (.invokevirtual 103, 3) := by decide +kernel
theorem dX4_swap_55 : decode cX4_swap 55 = .ok (.pop, 1) := by decide +kernel
theorem dX4_swap_56 : decode cX4_swap 56 = .ok (.iload 4, 2) := by decide +kernel
theorem dX4_swap_58 : decode cX4_swap 58 = .ok (.ireturn, 1) := by decide +kernel
theorem dX4_moreOf_0 : decode cX4_moreOf 0 = .ok (.aload_n 0, 1) := by decide +kernel
theorem dX4_moreOf_1 : decode cX4_moreOf 1 = .ok (.iload_n 1, 1) := by decide +kernel
theorem dX4_moreOf_2 : decode cX4_moreOf 2 = .ok (.invokestatic 95, 3) := by decide +kernel
theorem dX4_moreOf_5 : decode cX4_moreOf 5 = .ok (.iconst 0, 1) := by decide +kernel
theorem dX4_moreOf_6 : decode cX4_moreOf 6 = .ok (.invokevirtual 99, 3) := by decide +kernel
theorem dX4_moreOf_9 : decode cX4_moreOf 9 = .ok (.ifCond .eq 5, 3) := by decide +kernel
theorem dX4_moreOf_12 : decode cX4_moreOf 12 = .ok (.iconst 0, 1) := by decide +kernel
theorem dX4_moreOf_13 : decode cX4_moreOf 13 = .ok (.ireturn, 1) := by decide +kernel
theorem dX4_moreOf_14 : decode cX4_moreOf 14 = .ok (.iload 5, 2) := by decide +kernel
theorem dX4_moreOf_16 : decode cX4_moreOf 16 = .ok (.i2l, 1) := by decide +kernel
theorem dX4_moreOf_17 : decode cX4_moreOf 17 = .ok (.iload 4, 2) := by decide +kernel
theorem dX4_moreOf_19 : decode cX4_moreOf 19 = .ok (.ifCond .eq 12, 3) := by decide +kernel
theorem dX4_moreOf_22 : decode cX4_moreOf 22 = .ok (.ldc2_w 115, 3) := by decide +kernel
theorem dX4_moreOf_25 : decode cX4_moreOf 25 = .ok (.iload_n 3, 1) := by decide +kernel
theorem dX4_moreOf_26 : decode cX4_moreOf 26 = .ok (.i2l, 1) := by decide +kernel
theorem dX4_moreOf_27 : decode cX4_moreOf 27 = .ok (.lmul, 1) := by decide +kernel
theorem dX4_moreOf_28 : decode cX4_moreOf 28 = .ok (.goto 5, 3) := by decide +kernel
theorem dX4_moreOf_31 : decode cX4_moreOf 31 = .ok (.iload_n 3, 1) := by decide +kernel
theorem dX4_moreOf_32 : decode cX4_moreOf 32 = .ok (.i2l, 1) := by decide +kernel
theorem dX4_moreOf_33 : decode cX4_moreOf 33 = .ok (.lmul, 1) := by decide +kernel
theorem dX4_moreOf_34 : decode cX4_moreOf 34 = .ok (.lstore 6, 2) := by decide +kernel
theorem dX4_moreOf_36 : decode cX4_moreOf 36 = .ok (.aload_n 0, 1) := by decide +kernel
theorem dX4_moreOf_37 : decode cX4_moreOf 37 = .ok (.iload_n 1, 1) := by decide +kernel
theorem dX4_moreOf_38 : decode cX4_moreOf 38 = .ok (.aload_n 0, 1) := by decide +kernel
theorem dX4_moreOf_39 : decode cX4_moreOf 39 = .ok (.getfield 11, 3) := by decide +kernel
theorem dX4_moreOf_42 : decode cX4_moreOf 42 = .ok (.iload_n 1, 1) := by decide +kernel
theorem dX4_moreOf_43 : decode cX4_moreOf 43 = .ok (.aaload, 1) := by decide +kernel
theorem dX4_moreOf_44 : decode cX4_moreOf 44 = .ok (.iconst 0, 1) := by decide +kernel
theorem dX4_moreOf_45 : decode cX4_moreOf 45 = .ok (.iaload, 1) := by decide +kernel
theorem dX4_moreOf_46 : decode cX4_moreOf 46 = .ok (.i2l, 1) := by decide +kernel
theorem dX4_moreOf_47 : decode cX4_moreOf 47 = .ok (.iload_n 2, 1) := by decide +kernel
theorem dX4_moreOf_48 : decode cX4_moreOf 48 = .ok (.ifCond .ne 8, 3) := by decide +kernel
theorem dX4_moreOf_51 : decode cX4_moreOf 51 = .ok (.lload 6, 2) := by decide +kernel
theorem dX4_moreOf_53 : decode cX4_moreOf 53 = .ok (.goto 4, 3) := by decide +kernel
theorem dX4_moreOf_56 : decode cX4_moreOf 56 = .ok (.lconst 0, 1) := by decide +kernel
theorem dX4_moreOf_57 : decode cX4_moreOf 57 = .ok (.ladd, 1) := by decide +kernel
theorem dX4_moreOf_58 : decode cX4_moreOf 58 = .ok (.aload_n 0, 1) := by decide +kernel
theorem dX4_moreOf_59 : decode cX4_moreOf 59 = .ok (.getfield 11, 3) := by decide +kernel
theorem dX4_moreOf_62 : decode cX4_moreOf 62 = .ok (.iload_n 1, 1) := by decide +kernel
theorem dX4_moreOf_63 : decode cX4_moreOf 63 = .ok (.aaload, 1) := by decide +kernel
theorem dX4_moreOf_64 : decode cX4_moreOf 64 = .ok (.iconst 1, 1) := by decide +kernel
theorem dX4_moreOf_65 : decode cX4_moreOf 65 = .ok (.iaload, 1) := by decide +kernel
theorem dX4_moreOf_66 : decode cX4_moreOf 66 = .ok (.i2l, 1) := by decide +kernel
theorem dX4_moreOf_67 : decode cX4_moreOf 67 = .ok (.iload_n 2, 1) := by decide +kernel
theorem dX4_moreOf_68 : decode cX4_moreOf 68 = .ok (.iconst 1, 1) := by decide +kernel
theorem dX4_moreOf_69 : decode cX4_moreOf 69 = .ok (.if_icmp .ne 8, 3) := by decide +kernel
theorem dX4_moreOf_72 : decode cX4_moreOf 72 = .ok (.lload 6, 2) := by decide +kernel
theorem dX4_moreOf_74 : decode cX4_moreOf 74 = .ok (.goto 4, 3) := by decide +kernel
theorem dX4_moreOf_77 : decode cX4_moreOf 77 = .ok (.lconst 0, 1) := by decide +kernel
theorem dX4_moreOf_78 : decode cX4_moreOf 78 = .ok (.ladd, 1) := by decide +kernel
theorem dX4_moreOf_79 : decode cX4_moreOf 79 = .ok (.aload_n 0, 1) := by decide +kernel
theorem dX4_moreOf_80 : decode cX4_moreOf 80 = .ok (.getfield 11, 3) := by decide +kernel
theorem dX4_moreOf_83 : decode cX4_moreOf 83 = .ok (.iload_n 1, 1) := by decide +kernel
theorem dX4_moreOf_84 : decode cX4_moreOf 84 = .ok (.aaload, 1) := by decide +kernel
theorem dX4_moreOf_85 : decode cX4_moreOf 85 = .ok (.iconst 2, 1) := by decide +kernel
theorem dX4_moreOf_86 : decode cX4_moreOf 86 = .ok (.iaload, 1) := by decide +kernel
theorem dX4_moreOf_87 : decode cX4_moreOf 87 = .ok (.i2l, 1) := by decide +kernel
theorem dX4_moreOf_88 : decode cX4_moreOf 88 = .ok (.iload_n 2, 1) := by decide +kernel
theorem dX4_moreOf_89 : decode cX4_moreOf 89 = .ok (.iconst 2, 1) := by decide +kernel
theorem dX4_moreOf_90 : decode cX4_moreOf 90 = .ok (.if_icmp .ne 8, 3) := by decide +kernel
theorem dX4_moreOf_93 : decode cX4_moreOf 93 = .ok (.lload 6, 2) := by decide +kernel
theorem dX4_moreOf_95 : decode cX4_moreOf 95 = .ok (.goto 4, 3) := by decide +kernel
theorem dX4_moreOf_98 : decode cX4_moreOf 98 = .ok (.lconst 0, 1) := by decide +kernel
theorem dX4_moreOf_99 : decode cX4_moreOf 99 = .ok (.ladd, 1) := by decide +kernel
theorem dX4_moreOf_100 : decode cX4_moreOf 100 = .ok (.invokestatic 47, 3) := by decide +kernel
theorem dX4_moreOf_103 : decode cX4_moreOf 103 = .ok (.invokevirtual 103, 3) := by decide +kernel
theorem dX4_moreOf_106 : decode cX4_moreOf 106 = .ok (.ireturn, 1) := by decide +kernel
theorem dX4_plusYears_0 : decode cX4_plusYears 0 = .ok (.aload_n 0, 1) := by decide +kernel
theorem dX4_plusYears_1 : decode cX4_plusYears 1 = .ok (.iload_n 1, 1) := by decide +kernel
theorem dX4_plusYears_2 : decode cX4_plusYears 2 = .ok (.iconst 0, 1) := by decide +kernel
theorem dX4_plusYears_3 : decode cX4_plusYears 3 = .ok (.iload_n 2, 1) := by decide +kernel
theorem dX4_plusYears_4 : decode cX4_plusYears 4 = .ok (.iload_n 3, 1) := by decide +kernel
theorem dX4_plusYears_5 : decode cX4_plusYears 5 = .ok (.iconst 1, 1) := by decide +kernel
theorem dX4_plusYears_6 : decode cX4_plusYears 6 = .ok (.invokevirtual 117, 3) := by decide +kernel
theorem dX4_plusYears_9 : decode cX4_plusYears 9 = .ok (.ireturn, 1) := by decide +kernel
theorem dX4_plusMonths_0 : decode cX4_plusMonths 0 = .ok (.aload_n 0, 1) := by decide +kernel
theorem dX4_plusMonths_1 : decode cX4_plusMonths 1 = .ok (.iload_n 1, 1) := by decide +kernel
theorem dX4_plusMonths_2 : decode cX4_plusMonths 2 = .ok (.iconst 1, 1) := by decide +kernel
theorem dX4_plusMonths_3 : decode cX4_plusMonths 3 = .ok (.iload_n 2, 1) := by decide +kernel
theorem dX4_plusMonths_4 : decode cX4_plusMonths 4 = .ok (.iload_n 3, 1) := by decide +kernel
theorem dX4_plusMonths_5 : decode cX4_plusMonths 5 = .ok (.iconst 1, 1) := by decide +kernel
theorem dX4_plusMonths_6 : decode cX4_plusMonths 6 = .ok (.invokevirtual 117, 3) := by decide +kernel
theorem dX4_plusMonths_9 : decode cX4_plusMonths 9 = .ok (.ireturn, 1) := by decide +kernel
theorem dX4_plusDays_0 : decode cX4_plusDays 0 = .ok (.aload_n 0, 1) := by decide +kernel
theorem dX4_plusDays_1 : decode cX4_plusDays 1 = .ok (.iload_n 1, 1) := by decide +kernel
theorem dX4_plusDays_2 : decode cX4_plusDays 2 = .ok (.iconst 2, 1) := by decide +kernel
theorem dX4_plusDays_3 : decode cX4_plusDays 3 = .ok (.iload_n 2, 1) := by decide +kernel
theorem dX4_plusDays_4 : decode cX4_plusDays 4 = .ok (.iload_n 3, 1) := by decide +kernel
theorem dX4_plusDays_5 : decode cX4_plusDays 5 = .ok (.iconst 1, 1) := by decide +kernel
theorem dX4_plusDays_6 : decode cX4_plusDays 6 = .ok (.invokevirtual 117, 3) := by decide +kernel
theorem dX4_plusDays_9 : decode cX4_plusDays 9 = .ok (.ireturn, 1) := by decide +kernel
theorem dX4_minusYears_0 : decode cX4_minusYears 0 = .ok (.aload_n 0, 1) := by decide +kernel
theorem dX4_minusYears_1 : decode cX4_minusYears 1 = .ok (.iload_n 1, 1) := by decide +kernel
theorem dX4_minusYears_2 : decode cX4_minusYears 2 = .ok (.iconst 0, 1) := by decide +kernel
theorem dX4_minusYears_3 : decode cX4_minusYears 3 = .ok (.iload_n 2, 1) := by decide +kernel
theorem dX4_minusYears_4 : decode cX4_minusYears 4 = .ok (.iload_n 3, 1) := by decide +kernel
theorem dX4_minusYears_5 : decode cX4_minusYears 5 = .ok (.iconst (-1), 1) := by decide +kernel
theorem dX4_minusYears_6 : decode cX4_minusYears 6 = .ok (.invokevirtual 117, 3) := by decide +kernel
theorem dX4_minusYears_9 : decode cX4_minusYears 9 = .ok (.ireturn, 1) := by decide +kernel
theorem dX4_minusMonths_0 : decode cX4_minusMonths 0 = .ok (.aload_n 0, 1) := by decide +kernel
theorem dX4_minusMonths_1 : decode cX4_minusMonths 1 = .ok (.iload_n 1, 1) := by decide +kernel
theorem dX4_minusMonths_2 : decode cX4_minusMonths 2 = .ok (.iconst 1, 1) := by decide +kernel
theorem dX4_minusMonths_3 : decode cX4_minusMonths 3 = .ok (.iload_n 2, 1) := by decide +kernel
theorem dX4_minusMonths_4 : decode cX4_minusMonths 4 = .ok (.iload_n 3, 1) := by decide +kernel
theorem dX4_minusMonths_5 : decode cX4_minusMonths 5 = .ok (.iconst (-1), 1) := by decide +kernel
theorem dX4_minusMonths_6 : decode cX4_minusMonths 6 = .ok (.invokevirtual 117, 3) := by decide +kernel
theorem dX4_minusMonths_9 : decode cX4_minusMonths 9 = .ok (.ireturn, 1) := by decide +kernel
theorem dX4_minusDays_0 : decode cX4_minusDays 0 = .ok (.aload_n 0, 1) := by decide +kernel
theorem dX4_minusDays_1 : decode cX4_minusDays 1 = .ok (.iload_n 1, 1) := by decide +kernel
theorem dX4_minusDays_2 : decode cX4_minusDays 2 = .ok (.iconst 2, 1) := by decide +kernel
theorem dX4_minusDays_3 : decode cX4_minusDays 3 = .ok (.iload_n 2, 1) := by decide +kernel
theorem dX4_minusDays_4 : decode cX4_minusDays 4 = .ok (.iload_n 3, 1) := by decide +kernel
theorem dX4_minusDays_5 : decode cX4_minusDays 5 = .ok (.iconst (-1), 1) := by decide +kernel
theorem dX4_minusDays_6 : decode cX4_minusDays 6 = .ok (.invokevirtual 117, 3) := by decide +kernel
theorem dX4_minusDays_9 : decode cX4_minusDays 9 = .ok (.ireturn, 1) := by decide +kernel
theorem dX4_plus_0 : decode cX4_plus 0 = .ok (.aload_n 0, 1) := by decide +kernel
theorem dX4_plus_1 : decode cX4_plus 1 = .ok (.iload_n 1, 1) := by decide +kernel
theorem dX4_plus_2 : decode cX4_plus 2 = .ok (.invokestatic 95, 3) := by decide +kernel
theorem dX4_plus_5 : decode cX4_plus 5 = .ok (.ifCond .ne 10, 3) := by decide +kernel
theorem dX4_plus_8 : decode cX4_plus 8 = .ok (.iload_n 2, 1) := by decide +kernel
theorem dX4_plus_9 : decode cX4_plus 9 = .ok (.invokestatic 95, 3) := by decide +kernel
theorem dX4_plus_12 : decode cX4_plus 12 = .ok (.ifCond .eq 7, 3) := by decide +kernel
theorem dX4_plus_15 : decode cX4_plus 15 = .ok (.iconst 1, 1) := by decide +kernel
theorem dX4_plus_16 : decode cX4_plus 16 = .ok (.goto 4, 3) := by decide +kernel
theorem dX4_plus_19 : decode cX4_plus 19 = .ok (.iconst 0, 1) := by decide +kernel
theorem dX4_plus_20 : decode cX4_plus 20 = .ok (.iconst 0, 1) := by decide +kernel
theorem dX4_plus_21 : decode cX4_plus 21 = .ok (.invokevirtual 99, 3) := by decide +kernel
theorem dX4_plus_24 : decode cX4_plus 24 = .ok (.ifCond .eq 7, 3) := by decide +kernel
theorem dX4_plus_27 : decode cX4_plus 27 = .ok (.iconst 0, 1) := by decide +kernel
theorem dX4_plus_28 : decode cX4_plus 28 = .ok (.goto 24, 3) := by decide +kernel
theorem dX4_plus_31 : decode cX4_plus 31 = .ok (.aload_n 0, 1) := by decide +kernel
theorem dX4_plus_32 : decode cX4_plus 32 = .ok (.iload_n 1, 1) := by decide +kernel
theorem dX4_plus_33 : decode cX4_plus 33 = .ok (.aload_n 0, 1) := by decide +kernel
theorem dX4_plus_34 : decode cX4_plus 34 = .ok (.getfield 11, 3) := by decide +kernel
theorem dX4_plus_37 : decode cX4_plus 37 = .ok (.iload_n 1, 1) := by decide +kernel
theorem dX4_plus_38 : decode cX4_plus 38 = .ok (.aaload, 1) := by decide +kernel
theorem dX4_plus_39 : decode cX4_plus 39 = .ok (.lconst 1, 1) := by decide +kernel
theorem dX4_plus_40 : decode cX4_plus 40 = .ok (.aload_n 0, 1) := by decide +kernel
theorem dX4_plus_41 : decode cX4_plus 41 = .ok (.getfield 11, 3) := by decide +kernel
theorem dX4_plus_44 : decode cX4_plus 44 = .ok (.iload_n 2, 1) := by decide +kernel
theorem dX4_plus_45 : decode cX4_plus 45 = .ok (.aaload, 1) := by decide +kernel
theorem dX4_plus_46 : decode cX4_plus 46 = .ok (.invokestatic 57, 3) := by decide +kernel
theorem dX4_plus_49 : decode cX4_plus 49 = .ok (.invokevirtual 103, 3) := by decide +kernel
theorem dX4_plus_52 : decode cX4_plus 52 = .ok (.ireturn, 1) := by decide +kernel
theorem dX4_minus_0 : decode cX4_minus 0 = .ok (.aload_n 0, 1) := by decide +kernel
theorem dX4_minus_1 : decode cX4_minus 1 = .ok (.iload_n 1, 1) := by decide +kernel
theorem dX4_minus_2 : decode cX4_minus 2 = .ok (.invokestatic 95, 3) := by decide +kernel
theorem dX4_minus_5 : decode cX4_minus 5 = .ok (.ifCond .ne 10, 3) := by decide +kernel
theorem dX4_minus_8 : decode cX4_minus 8 = .ok (.iload_n 2, 1) := by decide +kernel
theorem dX4_minus_9 : decode cX4_minus 9 = .ok (.invokestatic 95, 3) := by decide +kernel
theorem dX4_minus_12 : decode cX4_minus 12 = .ok (.ifCond .eq 7, 3) := by decide +kernel
theorem dX4_minus_15 : decode cX4_minus 15 = .ok (.iconst 1, 1) := by decide +kernel
theorem dX4_minus_16 : decode cX4_minus 16 = .ok (.goto 4, 3) := by decide +kernel
theorem dX4_minus_19 : decode cX4_minus 19 = .ok (.iconst 0, 1) := by decide +kernel
theorem dX4_minus_20 : decode cX4_minus 20 = .ok (.iconst 0, 1) := by decide +kernel
theorem dX4_minus_21 : decode cX4_minus 21 = .ok (.invokevirtual 99, 3) := by decide +kernel
theorem dX4_minus_24 : decode cX4_minus 24 = .ok (.ifCond .eq 7, 3) := by decide +kernel
theorem dX4_minus_27 : decode cX4_minus 27 = .ok (.iconst 0, 1) := by decide +kernel
theorem dX4_minus_28 : decode cX4_minus 28 = .ok (.goto 26, 3) := by decide +kernel
theorem dX4_minus_31 : decode cX4_minus 31 = .ok (.aload_n 0, 1) := by decide +kernel
theorem dX4_minus_32 : decode cX4_minus 32 = .ok (.iload_n 1, 1) := by decide +kernel
theorem dX4_minus_33 : decode cX4_minus 33 = .ok (.aload_n 0, 1) := by decide +kernel
theorem dX4_minus_34 : decode cX4_minus 34 = .ok (.getfield 11, 3) := by decide +kernel
theorem dX4_minus_37 : decode cX4_minus 37 = .ok (.iload_n 1, 1) := by decide +kernel
theorem dX4_minus_38 : decode cX4_minus 38 = .ok (.aaload, 1) := by decide +kernel
theorem dX4_minus_39 : decode cX4_minus 39 = .ok (.ldc2_w 55, 3) := by decide +kernel
theorem dX4_minus_42 : decode cX4_minus 42 = .ok (.aload_n 0, 1) := by decide +kernel
theorem dX4_minus_43 : decode cX4_minus 43 = .ok (.getfield 11, 3) := by decide +kernel
theorem dX4_minus_46 : decode cX4_minus 46 = .ok (.iload_n 2, 1) := by decide +kernel
theorem dX4_minus_47 : decode cX4_minus 47 = .ok (.aaload, 1) := by decide +kernel
theorem dX4_minus_48 : decode cX4_minus 48 = .ok (.invokestatic 57, 3) := by decide +kernel
theorem dX4_minus_51 : decode cX4_minus 51 = .ok (.invokevirtual 103, 3) := by decide +kernel
theorem dX4_minus_54 : decode cX4_minus 54 = .ok (.ireturn, 1) := by decide +kernel
theorem dX4_multipliedBy_0 : decode cX4_multipliedBy 0 = .ok (.aload_n 0, 1) := by decide +kernel
theorem dX4_multipliedBy_1 : decode cX4_multipliedBy 1 = .ok (.iload_n 1, 1) := by decide +kernel
theorem dX4_multipliedBy_2 : decode cX4_multipliedBy 2 = .ok (.invokestatic 95, 3) := by decide +kernel
theorem dX4_multipliedBy_5 : decode cX4_multipliedBy 5 = .ok (.iconst 0, 1) := by decide +kernel
theorem dX4_multipliedBy_6 : decode cX4_multipliedBy 6 = .ok (.invokevirtual 99, 3) := by decide +kernel
theorem dX4_multipliedBy_9 : decode cX4_multipliedBy 9 = .ok (.ifCond .eq 7, 3) := by decide +kernel
theorem dX4_multipliedBy_12 : decode cX4_multipliedBy 12 = .ok (.iconst 0, 1) := by decide +kernel
theorem dX4_multipliedBy_13 : decode cX4_multipliedBy 13 = .ok (.goto 22, 3) := by decide +kernel
theorem dX4_multipliedBy_16 : decode cX4_multipliedBy 16 = .ok (.aload_n 0, 1) := by decide +kernel
theorem dX4_multipliedBy_17 : decode cX4_multipliedBy 17 = .ok (.iload_n 1, 1) := by decide +kernel
theorem dX4_multipliedBy_18 : decode cX4_multipliedBy 18 = .ok (.invokestatic 51, 3) := by decide +kernel
theorem dX4_multipliedBy_21 : decode cX4_multipliedBy 21 = .ok (.iload_n 2, 1) := by decide +kernel
theorem dX4_multipliedBy_22 : decode cX4_multipliedBy 22 = .ok (.i2l, 1) := by decide +kernel
theorem dX4_multipliedBy_23 : decode cX4_multipliedBy 23 = .ok (.aload_n 0, 1) := by decide +kernel
theorem dX4_multipliedBy_24 : decode cX4_multipliedBy 24 = .ok (.getfield 11, 3) := by decide +kernel
theorem dX4_multipliedBy_27 : decode cX4_multipliedBy 27 = .ok (.iload_n 1, 1) := by decide +kernel
theorem dX4_multipliedBy_28 : decode cX4_multipliedBy 28 = .ok (.aaload, 1) := by decide +kernel
theorem dX4_multipliedBy_29 : decode cX4_multipliedBy 29 = .ok (.invokestatic 57, 3) := by decide +kernel
theorem dX4_multipliedBy_32 : decode cX4_multipliedBy 32 = .ok (.invokevirtual 103, 3) := by decide +kernel
theorem dX4_multipliedBy_35 : decode cX4_multipliedBy 35 = .ok (.ireturn, 1) := by decide +kernel
theorem dX4_negated_0 : decode cX4_negated 0 = .ok (.aload_n 0, 1) := by decide +kernel
theorem dX4_negated_1 : decode cX4_negated 1 = .ok (.iload_n 1, 1) := by decide +kernel
theorem dX4_negated_2 : decode cX4_negated 2 = .ok (.invokestatic 95, 3) := by decide +kernel
theorem dX4_negated_5 : decode cX4_negated 5 = .ok (.iconst 0, 1) := by decide +kernel
theorem dX4_negated_6 : decode cX4_negated 6 = .ok (.invokevirtual 99, 3) := by decide +kernel
theorem dX4_negated_9 : decode cX4_negated 9 = .ok (.ifCond .eq 7, 3) := by decide +kernel
theorem dX4_negated_12 : decode cX4_negated 12 = .ok (.iconst 0, 1) := by decide +kernel
theorem dX4_negated_13 : decode cX4_negated 13 = .ok (.goto 17, 3) := by decide +kernel
theorem dX4_negated_16 : decode cX4_negated 16 = .ok (.aload_n 0, 1) := by decide +kernel
theorem dX4_negated_17 : decode cX4_negated 17 = .ok (.iload_n 1, 1) := by decide +kernel
theorem dX4_negated_18 : decode cX4_negated 18 = .ok (.aload_n 0, 1) := by decide +kernel
theorem dX4_negated_19 : decode cX4_negated 19 = .ok (.getfield 11, 3) := by decide +kernel
theorem dX4_negated_22 : decode cX4_negated 22 = .ok (.iload_n 1, 1) := by decide +kernel
theorem dX4_negated_23 : decode cX4_negated 23 = .ok (.aaload, 1) := by decide +kernel
theorem dX4_negated_24 : decode cX4_negated 24 = .ok (.invokestatic 121, 3) := by decide +kernel
theorem dX4_negated_27 : decode cX4_negated 27 = .ok (.invokevirtual 103, 3) := by decide +kernel
theorem dX4_negated_30 : decode cX4_negated 30 = .ok (.ireturn, 1) := by decide +kernel
theorem dX4_normalized_0 : decode cX4_normalized 0 = .ok (.aload_n 0, 1) := by decide +kernel
theorem dX4_normalized_1 : decode cX4_normalized 1 = .ok (.iload_n 1, 1) := by decide +kernel
theorem dX4_normalized_2 : decode cX4_normalized 2 = .ok (.invokestatic 95, 3) := by decide +kernel
theorem dX4_normalized_5 : decode cX4_normalized 5 = .ok (.iconst 0, 1) := by decide +kernel
theorem dX4_normalized_6 : decode cX4_normalized 6 = .ok (.invokevirtual 99, 3) := by decide +kernel
theorem dX4_normalized_9 : decode cX4_normalized 9 = .ok (.ifCond .eq 7, 3) := by decide +kernel
theorem dX4_normalized_12 : decode cX4_normalized 12 = .ok (.iconst 0, 1) := by decide +kernel
theorem dX4_normalized_13 : decode cX4_normalized 13 = .ok (.goto 17, 3) := by decide +kernel
theorem dX4_normalized_16 : decode cX4_normalized 16 = .ok (.aload_n 0, 1) := by decide +kernel
theorem dX4_normalized_17 : decode cX4_normalized 17 = .ok (.iload_n 1, 1) := by decide +kernel
theorem dX4_normalized_18 : decode cX4_normalized 18 = .ok (.aload_n 0, 1) := by decide +kernel
theorem dX4_normalized_19 : decode cX4_normalized 19 = .ok (.getfield 11, 3) := by decide +kernel
theorem dX4_normalized_22 : decode cX4_normalized 22 = .ok (.iload_n 1, 1) := by decide +kernel
theorem dX4_normalized_23 : decode cX4_normalized 23 = .ok (.aaload, 1) := by decide +kernel
theorem dX4_normalized_24 : decode cX4_normalized 24 = .ok (.invokestatic 125, 3) := by decide +kernel
theorem dX4_normalized_27 : decode cX4_normalized 27 = .ok (.invokevirtual 103, 3) := by decide +kernel
theorem dX4_normalized_30 : decode cX4_normalized 30 = .ok (.ireturn, 1) := by decide +kernel
theorem dX4_lay_0 : decode cX4_lay 0 = .ok (.aload_n 0, 1) := by decide +kernel
theorem dX4_lay_1 : decode cX4_lay 1 = .ok (.iload_n 1, 1) := by decide +kernel
theorem dX4_lay_2 : decode cX4_lay 2 = .ok (.invokestatic 95, 3) := by decide +kernel
theorem dX4_lay_5 : decode cX4_lay 5 = .ok (.iconst 0, 1) := by decide +kernel
theorem dX4_lay_6 : decode cX4_lay 6 = .ok (.invokevirtual 99, 3) := by decide +kernel
theorem dX4_lay_9 : decode cX4_lay 9 = .ok (.ifCond .eq 5, 3) := by decide +kernel
theorem dX4_lay_12 : decode cX4_lay 12 = .ok (.iconst 0, 1) := by decide +kernel
theorem dX4_lay_13 : decode cX4_lay 13 = .ok (.ireturn, 1) := by decide +kernel
theorem dX4_lay_14 : decode cX4_lay 14 = .ok (.aload_n 0, 1) := by decide +kernel
theorem dX4_lay_15 : decode cX4_lay 15 = .ok (.getfield 17, 3) := by decide +kernel
theorem dX4_lay_18 : decode cX4_lay 18 = .ok (.invokevirtual 128, 3) := by decide +kernel
theorem dX4_lay_21 : decode cX4_lay 21 = .ok (.bipush 8, 2) := by decide +kernel
theorem dX4_lay_23 : decode cX4_lay 23 = .ok (.if_icmp .ne 8, 3) := by decide +kernel
theorem dX4_lay_26 : decode cX4_lay 26 = .ok (.aload_n 0, 1) := by decide +kernel
theorem dX4_lay_27 : decode cX4_lay 27 = .ok (.invokevirtual 83, 3) := by decide +kernel
theorem dX4_lay_30 : decode cX4_lay 30 = .ok (.ireturn, 1) := by decide +kernel
theorem dX4_lay_31 : decode cX4_lay 31 = .ok (.aload_n 0, 1) := by decide +kernel
theorem dX4_lay_32 : decode cX4_lay 32 = .ok (.getfield 17, 3) := by decide +kernel
theorem dX4_lay_35 : decode cX4_lay 35 = .ok (.iconst 3, 1) := by decide +kernel
theorem dX4_lay_36 : decode cX4_lay 36 = .ok (.newarray .int, 2) := by decide +kernel
theorem dX4_lay_38 : decode cX4_lay 38 = .ok (.dup, 1) := by decide +kernel
theorem dX4_lay_39 : decode cX4_lay 39 = .ok (.iconst 0, 1) := by decide +kernel
theorem dX4_lay_40 : decode cX4_lay 40 = .ok (.aload_n 0, 1) := by decide +kernel
theorem dX4_lay_41 : decode cX4_lay 41 = .ok (.getfield 11, 3) := by decide +kernel
theorem dX4_lay_44 : decode cX4_lay 44 = .ok (.iload_n 1, 1) := by decide +kernel
theorem dX4_lay_45 : decode cX4_lay 45 = .ok (.aaload, 1) := by decide +kernel
theorem dX4_lay_46 : decode cX4_lay 46 = .ok (.iconst 0, 1) := by decide +kernel
theorem dX4_lay_47 : decode cX4_lay 47 = .ok (.iaload, 1) := by decide +kernel
theorem dX4_lay_48 : decode cX4_lay 48 = .ok (.iastore, 1) := by decide +kernel
theorem dX4_lay_49 : decode cX4_lay 49 = .ok (.dup, 1) := by decide +kernel
theorem dX4_lay_50 : decode cX4_lay 50 = .ok (.iconst 1, 1) := by decide +kernel
theorem dX4_lay_51 : decode cX4_lay 51 = .ok (.aload_n 0, 1) := by decide +kernel
theorem dX4_lay_52 : decode cX4_lay 52 = .ok (.getfield 11, 3) := by decide +kernel
theorem dX4_lay_55 : decode cX4_lay 55 = .ok (.iload_n 1, 1) := by decide +kernel
theorem dX4_lay_56 : decode cX4_lay 56 = .ok (.aaload, 1) := by decide +kernel
theorem dX4_lay_57 : decode cX4_lay 57 = .ok (.iconst 1, 1) := by decide +kernel
theorem dX4_lay_58 : decode cX4_lay 58 = .ok (.iaload, 1) := by decide +kernel
theorem dX4_lay_59 : decode cX4_lay 59 = .ok (.iastore, 1) := by decide +kernel
theorem dX4_lay_60 : decode cX4_lay 60 = .ok (.dup, 1) := by decide +kernel
theorem dX4_lay_61 : decode cX4_lay 61 = .ok (.iconst 2, 1) := by decide +kernel
theorem dX4_lay_62 : decode cX4_lay 62 = .ok (.aload_n 0, 1) := by decide +kernel
theorem dX4_lay_63 : decode cX4_lay 63 = .ok (.getfield 11, 3) := by decide +kernel
theorem dX4_lay_66 : decode cX4_lay 66 = .ok (.iload_n 1, 1) := by decide +kernel
theorem dX4_lay_67 : decode cX4_lay 67 = .ok (.aaload, 1) := by decide +kernel
theorem dX4_lay_68 : decode cX4_lay 68 = .ok (.iconst 2, 1) := by decide +kernel
theorem dX4_lay_69 : decode cX4_lay 69 = .ok (.iaload, 1) := by decide +kernel
theorem dX4_lay_70 : decode cX4_lay 70 = .ok (.iastore, 1) := by decide +kernel
theorem dX4_lay_71 : decode cX4_lay 71 = .ok (.invokevirtual 131, 3) := by decide +kernel
theorem dX4_lay_74 : decode cX4_lay 74 = .ok (.pop, 1) := by decide +kernel
theorem dX4_lay_75 : decode cX4_lay 75 = .ok (.aload_n 0, 1) := by decide +kernel
theorem dX4_lay_76 : decode cX4_lay 76 = .ok (.getfield 17, 3) := by decide +kernel
theorem dX4_lay_79 : decode cX4_lay 79 = .ok (.invokevirtual 128, 3) := by decide +kernel
theorem dX4_lay_82 : decode cX4_lay 82 = .ok (.ireturn, 1) := by decide +kernel
theorem dX4_take_0 : decode cX4_take 0 = .ok (.aload_n 0, 1) := by decide +kernel
theorem dX4_take_1 : decode cX4_take 1 = .ok (.iload_n 1, 1) := by decide +kernel
theorem dX4_take_2 : decode cX4_take 2 = .ok (.invokestatic 95, 3) := by decide +kernel
theorem dX4_take_5 : decode cX4_take 5 = .ok (.iconst 0, 1) := by decide +kernel
theorem dX4_take_6 : decode cX4_take 6 = .ok (.invokevirtual 99, 3) := by decide +kernel
theorem dX4_take_9 : decode cX4_take 9 = .ok (.ifCond .eq 5, 3) := by decide +kernel
theorem dX4_take_12 : decode cX4_take 12 = .ok (.iconst 0, 1) := by decide +kernel
theorem dX4_take_13 : decode cX4_take 13 = .ok (.ireturn, 1) := by decide +kernel
theorem dX4_take_14 : decode cX4_take 14 = .ok (.aload_n 0, 1) := by decide +kernel
theorem dX4_take_15 : decode cX4_take 15 = .ok (.getfield 17, 3) := by decide +kernel
theorem dX4_take_18 : decode cX4_take 18 = .ok (.invokevirtual 135, 3) := by decide +kernel
theorem dX4_take_21 : decode cX4_take 21 = .ok (.ifCond .eq 8, 3) := by decide +kernel
theorem dX4_take_24 : decode cX4_take 24 = .ok (.aload_n 0, 1) := by decide +kernel
theorem dX4_take_25 : decode cX4_take 25 = .ok (.invokevirtual 83, 3) := by decide +kernel
theorem dX4_take_28 : decode cX4_take 28 = .ok (.ireturn, 1) := by decide +kernel
theorem dX4_take_29 : decode cX4_take 29 = .ok (.aload_n 0, 1) := by decide +kernel
theorem dX4_take_30 : decode cX4_take 30 = .ok (.iload_n 1, 1) := by decide +kernel
theorem dX4_take_31 : decode cX4_take 31 = .ok (.aload_n 0, 1) := by decide +kernel
theorem dX4_take_32 : decode cX4_take 32 = .ok (.getfield 17, 3) := by decide +kernel
theorem dX4_take_35 : decode cX4_take 35 = .ok (.aload_n 0, 1) := by decide +kernel
theorem dX4_take_36 : decode cX4_take 36 = .ok (.getfield 17, 3) := by decide +kernel
theorem dX4_take_39 : decode cX4_take 39 = .ok (.invokevirtual 128, 3) := by decide +kernel
theorem dX4_take_42 : decode cX4_take 42 = .ok (.iconst 1, 1) := by decide +kernel
theorem dX4_take_43 : decode cX4_take 43 = .ok (.isub, 1) := by decide +kernel
theorem dX4_take_44 : decode cX4_take 44 = .ok (.invokevirtual 139, 3) := by decide +kernel
theorem dX4_take_47 : decode cX4_take 47 = .ok (.checkcast 21, 3) := by decide +kernel
theorem dX4_take_50 : decode cX4_take 50 = .ok (.invokevirtual 103, 3) := by decide +kernel
theorem dX4_take_53 : decode cX4_take 53 = .ok (.pop, 1) := by decide +kernel
theorem dX4_take_54 : decode cX4_take 54 = .ok (.aload_n 0, 1) := by decide +kernel
theorem dX4_take_55 : decode cX4_take 55 = .ok (.getfield 17, 3) := by decide +kernel
theorem dX4_take_58 : decode cX4_take 58 = .ok (.invokevirtual 128, 3) := by decide +kernel
theorem dX4_take_61 : decode cX4_take 61 = .ok (.ireturn, 1) := by decide +kernel
theorem dX4_sum__0 : decode cX4_sum_ 0 = .ok (.aload_n 0, 1) := by decide +kernel
theorem dX4_sum__1 : decode cX4_sum_ 1 = .ok (.iload_n 1, 1) := by decide +kernel
theorem dX4_sum__2 : decode cX4_sum_ 2 = .ok (.invokestatic 95, 3) := by decide +kernel
theorem dX4_sum__5 : decode cX4_sum_ 5 = .ok (.iconst 0, 1) := by decide +kernel
theorem dX4_sum__6 : decode cX4_sum_ 6 = .ok (.invokevirtual 99, 3) := by decide +kernel
theorem dX4_sum__9 : decode cX4_sum_ 9 = .ok (.ifCond .eq 5, 3) := by decide +kernel
theorem dX4_sum__12 : decode cX4_sum_ 12 = .ok (.iconst 0, 1) := by decide +kernel
theorem dX4_sum__13 : decode cX4_sum_ 13 = .ok (.ireturn, 1) := by decide +kernel
theorem dX4_sum__14 : decode cX4_sum_ 14 = .ok (.invokestatic 51, 3) := by decide +kernel
theorem dX4_sum__17 : decode cX4_sum_ 17 = .ok (.astore_n 2, 1) := by decide +kernel
theorem dX4_sum__18 : decode cX4_sum_ 18 = .ok (.iconst 0, 1) := by decide +kernel
theorem dX4_sum__19 : decode cX4_sum_ 19 = .ok (.istore_n 3, 1) := by decide +kernel
theorem dX4_sum__20 : decode cX4_sum_ 20 = .ok (.iload_n 3, 1) := by decide +kernel
theorem dX4_sum__21 : decode cX4_sum_ 21 = .ok (.aload_n 0, 1) := by decide +kernel
theorem dX4_sum__22 : decode cX4_sum_ 22 = .ok (.getfield 17, 3) := by decide +kernel
theorem dX4_sum__25 : decode cX4_sum_ 25 = .ok (.invokevirtual 128, 3) := by decide +kernel
theorem dX4_sum__28 : decode cX4_sum_ 28 = .ok (.if_icmp .ge 30, 3) := by decide +kernel
theorem dX4_sum__31 : decode cX4_sum_ 31 = .ok (.aload_n 2, 1) := by decide +kernel
theorem dX4_sum__32 : decode cX4_sum_ 32 = .ok (.ifnull 26, 3) := by decide +kernel
theorem dX4_sum__35 : decode cX4_sum_ 35 = .ok (.aload_n 2, 1) := by decide +kernel
theorem dX4_sum__36 : decode cX4_sum_ 36 = .ok (.lconst 1, 1) := by decide +kernel
theorem dX4_sum__37 : decode cX4_sum_ 37 = .ok (.aload_n 0, 1) := by decide +kernel
theorem dX4_sum__38 : decode cX4_sum_ 38 = .ok (.getfield 17, 3) := by decide +kernel
theorem dX4_sum__41 : decode cX4_sum_ 41 = .ok (.iload_n 3, 1) := by decide +kernel
theorem dX4_sum__42 : decode cX4_sum_ 42 = .ok (.invokevirtual 143, 3) := by decide +kernel
theorem dX4_sum__45 : decode cX4_sum_ 45 = .ok (.checkcast 21, 3) := by decide +kernel
theorem dX4_sum__48 : decode cX4_sum_ 48 = .ok (.invokestatic 57, 3) := by decide +kernel
theorem dX4_sum__51 : decode cX4_sum_ 51 = .ok (.astore_n 2, 1) := by decide +kernel
theorem dX4_sum__52 : decode cX4_sum_ 52 = .ok (.iinc 3 1, 3) := by decide +kernel
theorem dX4_sum__55 : decode cX4_sum_ 55 = .ok (.goto (-35), 3) := by decide +kernel
theorem dX4_sum__58 : decode cX4_sum_ 58 = .ok (.aload_n 0, 1) := by decide +kernel
theorem dX4_sum__59 : decode cX4_sum_ 59 = .ok (.iload_n 1, 1) := by decide +kernel
theorem dX4_sum__60 : decode cX4_sum_ 60 = .ok (.aload_n 2, 1) := by decide +kernel
theorem dX4_sum__61 : decode cX4_sum_ 61 = .ok (.invokevirtual 103, 3) := by decide +kernel
theorem dX4_sum__64 : decode cX4_sum_ 64 = .ok (.ireturn, 1) := by decide +kernel
theorem dX4_piledNow_0 : decode cX4_piledNow 0 = .ok (.iload_n 1, 1) := by decide +kernel
theorem dX4_piledNow_1 : decode cX4_piledNow 1 = .ok (.i2l, 1) := by decide +kernel
theorem dX4_piledNow_2 : decode cX4_piledNow 2 = .ok (.lconst 0, 1) := by decide +kernel
theorem dX4_piledNow_3 : decode cX4_piledNow 3 = .ok (.aload_n 0, 1) := by decide +kernel
theorem dX4_piledNow_4 : decode cX4_piledNow 4 = .ok (.getfield 17, 3) := by decide +kernel
theorem dX4_piledNow_7 : decode cX4_piledNow 7 = .ok (.invokevirtual 128, 3) := by decide +kernel
theorem dX4_piledNow_10 : decode cX4_piledNow 10 = .ok (.iconst 1, 1) := by decide +kernel
theorem dX4_piledNow_11 : decode cX4_piledNow 11 = .ok (.isub, 1) := by decide +kernel
theorem dX4_piledNow_12 : decode cX4_piledNow 12 = .ok (.i2l, 1) := by decide +kernel
theorem dX4_piledNow_13 : decode cX4_piledNow 13 = .ok (.invokestatic 37, 3) := by decide +kernel
theorem dX4_piledNow_16 : decode cX4_piledNow 16 = .ok (.ifCond .eq 20, 3) := by decide +kernel
theorem dX4_piledNow_19 : decode cX4_piledNow 19 = .ok (.aload_n 0, 1) := by decide +kernel
theorem dX4_piledNow_20 : decode cX4_piledNow 20 = .ok (.getfield 17, 3) := by decide +kernel
theorem dX4_piledNow_23 : decode cX4_piledNow 23 = .ok (.iload_n 1, 1) := by decide +kernel
theorem dX4_piledNow_24 : decode cX4_piledNow 24 = .ok (.invokevirtual 143, 3) := by decide +kernel
theorem dX4_piledNow_27 : decode cX4_piledNow 27 = .ok (.checkcast 21, 3) := by decide +kernel
theorem dX4_piledNow_30 : decode cX4_piledNow 30 = .ok (.invokestatic 145, 3) := by decide +kernel
theorem dX4_piledNow_33 : decode cX4_piledNow 33 = .ok (.goto 5, 3) := by decide +kernel
theorem dX4_piledNow_36 : decode cX4_piledNow 36 = .ok (.ldc 61, 2) := by decide +kernel
theorem dX4_piledNow_38 : decode cX4_piledNow 38 = .ok (.areturn, 1) := by decide +kernel
theorem dX4_piled_0 : decode cX4_piled 0 = .ok (.aload_n 0, 1) := by decide +kernel
theorem dX4_piled_1 : decode cX4_piled 1 = .ok (.iconst 0, 1) := by decide +kernel
theorem dX4_piled_2 : decode cX4_piled 2 = .ok (.putfield 26, 3) := by decide +kernel
theorem dX4_piled_5 : decode cX4_piled 5 = .ok (.aload_n 0, 1) := by decide +kernel
theorem dX4_piled_6 : decode cX4_piled 6 = .ok (.iload_n 1, 1) := by decide +kernel
theorem dX4_piled_7 : decode cX4_piled 7 = .ok (.invokevirtual 149, 3) := by decide +kernel
theorem dX4_piled_10 : decode cX4_piled 10 = .ok (.areturn, 1) := by decide +kernel
theorem dX4_part_0 : decode cX4_part 0 = .ok (.aload_n 0, 1) := by decide +kernel
theorem dX4_part_1 : decode cX4_part 1 = .ok (.iload_n 1, 1) := by decide +kernel
theorem dX4_part_2 : decode cX4_part 2 = .ok (.invokestatic 95, 3) := by decide +kernel
theorem dX4_part_5 : decode cX4_part 5 = .ok (.iload_n 2, 1) := by decide +kernel
theorem dX4_part_6 : decode cX4_part 6 = .ok (.i2l, 1) := by decide +kernel
theorem dX4_part_7 : decode cX4_part 7 = .ok (.lconst 0, 1) := by decide +kernel
theorem dX4_part_8 : decode cX4_part 8 = .ok (.ldc2_w 113, 3) := by decide +kernel
theorem dX4_part_11 : decode cX4_part 11 = .ok (.invokestatic 37, 3) := by decide +kernel
theorem dX4_part_14 : decode cX4_part 14 = .ok (.ifCond .ne 7, 3) := by decide +kernel
theorem dX4_part_17 : decode cX4_part 17 = .ok (.iconst 1, 1) := by decide +kernel
theorem dX4_part_18 : decode cX4_part 18 = .ok (.goto 4, 3) := by decide +kernel
theorem dX4_part_21 : decode cX4_part 21 = .ok (.iconst 0, 1) := by decide +kernel
theorem dX4_part_22 : decode cX4_part 22 = .ok (.invokevirtual 99, 3) := by decide +kernel
theorem dX4_part_25 : decode cX4_part 25 = .ok (.ifCond .eq 7, 3) := by decide +kernel
theorem dX4_part_28 : decode cX4_part 28 = .ok (.iconst 0, 1) := by decide +kernel
theorem dX4_part_29 : decode cX4_part 29 = .ok (.goto 11, 3) := by decide +kernel
theorem dX4_part_32 : decode cX4_part 32 = .ok (.aload_n 0, 1) := by decide +kernel
theorem dX4_part_33 : decode cX4_part 33 = .ok (.getfield 11, 3) := by decide +kernel
theorem dX4_part_36 : decode cX4_part 36 = .ok (.iload_n 1, 1) := by decide +kernel
theorem dX4_part_37 : decode cX4_part 37 = .ok (.aaload, 1) := by decide +kernel
theorem dX4_part_38 : decode cX4_part 38 = .ok (.iload_n 2, 1) := by decide +kernel
theorem dX4_part_39 : decode cX4_part 39 = .ok (.iaload, 1) := by decide +kernel
theorem dX4_part_40 : decode cX4_part 40 = .ok (.ireturn, 1) := by decide +kernel
theorem dX4_total__0 : decode cX4_total_ 0 = .ok (.aload_n 0, 1) := by decide +kernel
theorem dX4_total__1 : decode cX4_total_ 1 = .ok (.iload_n 1, 1) := by decide +kernel
theorem dX4_total__2 : decode cX4_total_ 2 = .ok (.invokestatic 95, 3) := by decide +kernel
theorem dX4_total__5 : decode cX4_total_ 5 = .ok (.iconst 0, 1) := by decide +kernel
theorem dX4_total__6 : decode cX4_total_ 6 = .ok (.invokevirtual 99, 3) := by decide +kernel
theorem dX4_total__9 : decode cX4_total_ 9 = .ok (.ifCond .eq 8, 3) := by decide +kernel
theorem dX4_total__12 : decode cX4_total_ 12 = .ok (.ldc 61, 2) := by decide +kernel
theorem dX4_total__14 : decode cX4_total_ 14 = .ok (.goto 30, 3) := by decide +kernel
theorem dX4_total__17 : decode cX4_total_ 17 = .ok (.new 63, 3) := by decide +kernel
theorem dX4_total__20 : decode cX4_total_ 20 = .ok (.dup, 1) := by decide +kernel
theorem dX4_total__21 : decode cX4_total_ 21 = .ok (.invokespecial 65, 3) := by decide +kernel
theorem dX4_total__24 : decode cX4_total_ 24 = .ok (.ldc 61, 2) := by decide +kernel
theorem dX4_total__26 : decode cX4_total_ 26 = .ok (.invokevirtual 72, 3) := by decide +kernel
theorem dX4_total__29 : decode cX4_total_ 29 = .ok (.aload_n 0, 1) := by decide +kernel
theorem dX4_total__30 : decode cX4_total_ 30 = .ok (.getfield 11, 3) := by decide +kernel
theorem dX4_total__33 : decode cX4_total_ 33 = .ok (.iload_n 1, 1) := by decide +kernel
theorem dX4_total__34 : decode cX4_total_ 34 = .ok (.aaload, 1) := by decide +kernel
theorem dX4_total__35 : decode cX4_total_ 35 = .ok (.invokestatic 43, 3) := by decide +kernel
theorem dX4_total__38 : decode cX4_total_ 38 = .ok (.invokevirtual 153, 3) := by decide +kernel
theorem dX4_total__41 : decode cX4_total_ 41 = .ok (.invokevirtual 79, 3) := by decide +kernel
theorem dX4_total__44 : decode cX4_total_ 44 = .ok (.areturn, 1) := by decide +kernel
theorem dX4_isZeroNow_0 : decode cX4_isZeroNow 0 = .ok (.aload_n 0, 1) := by decide +kernel
theorem dX4_isZeroNow_1 : decode cX4_isZeroNow 1 = .ok (.getfield 11, 3) := by decide +kernel
theorem dX4_isZeroNow_4 : decode cX4_isZeroNow 4 = .ok (.iload_n 1, 1) := by decide +kernel
theorem dX4_isZeroNow_5 : decode cX4_isZeroNow 5 = .ok (.aaload, 1) := by decide +kernel
theorem dX4_isZeroNow_6 : decode cX4_isZeroNow 6 = .ok (.invokestatic 51, 3) := by decide +kernel
theorem dX4_isZeroNow_9 : decode cX4_isZeroNow 9 = .ok (.invokestatic 87, 3) := by decide +kernel
theorem dX4_isZeroNow_12 : decode cX4_isZeroNow 12 = .ok (.ireturn, 1) := by decide +kernel
theorem dX4_isNegativeNow_0 : decode cX4_isNegativeNow 0 = .ok (.aload_n 0, 1) := by decide +kernel
theorem dX4_isNegativeNow_1 : decode cX4_isNegativeNow 1 = .ok (.getfield 11, 3) := by decide +kernel
theorem dX4_isNegativeNow_4 : decode cX4_isNegativeNow 4 = .ok (.iload_n 1, 1) := by decide +kernel
theorem dX4_isNegativeNow_5 : decode cX4_isNegativeNow 5 = .ok (.aaload, 1) := by decide +kernel
theorem dX4_isNegativeNow_6 : decode cX4_isNegativeNow 6 = .ok (.iconst 0, 1) := by decide +kernel
theorem dX4_isNegativeNow_7 : decode cX4_isNegativeNow 7 = .ok (.iaload, 1) := by decide +kernel
theorem dX4_isNegativeNow_8 : decode cX4_isNegativeNow 8 = .ok (.ifCond .lt 25, 3) := by decide +kernel
theorem dX4_isNegativeNow_11 : decode cX4_isNegativeNow 11 = .ok (.aload_n 0, 1) := by decide +kernel
theorem dX4_isNegativeNow_12 : decode cX4_isNegativeNow 12 = .ok (.getfield 11, 3) := by decide +kernel
theorem dX4_isNegativeNow_15 : decode cX4_isNegativeNow 15 = .ok (.iload_n 1, 1) := by decide +kernel
theorem dX4_isNegativeNow_16 : decode cX4_isNegativeNow 16 = .ok (.aaload, 1) := by decide +kernel
theorem dX4_isNegativeNow_17 : decode cX4_isNegativeNow 17 = .ok (.iconst 1, 1) := by decide +kernel
theorem dX4_isNegativeNow_18 : decode cX4_isNegativeNow 18 = .ok (.iaload, 1) := by decide +kernel
theorem dX4_isNegativeNow_19 : decode cX4_isNegativeNow 19 = .ok (.ifCond .lt 14, 3) := by decide +kernel
theorem dX4_isNegativeNow_22 : decode cX4_isNegativeNow 22 = .ok (.aload_n 0, 1) := by decide +kernel
theorem dX4_isNegativeNow_23 : decode cX4_isNegativeNow 23 = .ok (.getfield 11, 3) := by decide +kernel
theorem dX4_isNegativeNow_26 : decode cX4_isNegativeNow 26 = .ok (.iload_n 1, 1) := by decide +kernel
theorem dX4_isNegativeNow_27 : decode cX4_isNegativeNow 27 = .ok (.aaload, 1) := by decide +kernel
theorem dX4_isNegativeNow_28 : decode cX4_isNegativeNow 28 = .ok (.iconst 2, 1) := by decide +kernel
theorem dX4_isNegativeNow_29 : decode cX4_isNegativeNow 29 = .ok (.iaload, 1) := by decide +kernel
theorem dX4_isNegativeNow_30 : decode cX4_isNegativeNow 30 = .ok (.ifCond .ge 7, 3) := by decide +kernel
theorem dX4_isNegativeNow_33 : decode cX4_isNegativeNow 33 = .ok (.iconst 1, 1) := by decide +kernel
theorem dX4_isNegativeNow_34 : decode cX4_isNegativeNow 34 = .ok (.goto 4, 3) := by decide +kernel
theorem dX4_isNegativeNow_37 : decode cX4_isNegativeNow 37 = .ok (.iconst 0, 1) := by decide +kernel
theorem dX4_isNegativeNow_38 : decode cX4_isNegativeNow 38 = .ok (.ireturn, 1) := by decide +kernel
theorem dX4_isZero_0 : decode cX4_isZero 0 = .ok (.aload_n 0, 1) := by decide +kernel
theorem dX4_isZero_1 : decode cX4_isZero 1 = .ok (.iload_n 1, 1) := by decide +kernel
theorem dX4_isZero_2 : decode cX4_isZero 2 = .ok (.invokestatic 95, 3) := by decide +kernel
theorem dX4_isZero_5 : decode cX4_isZero 5 = .ok (.iconst 0, 1) := by decide +kernel
theorem dX4_isZero_6 : decode cX4_isZero 6 = .ok (.invokevirtual 99, 3) := by decide +kernel
theorem dX4_isZero_9 : decode cX4_isZero 9 = .ok (.ifCond .ne 15, 3) := by decide +kernel
theorem dX4_isZero_12 : decode cX4_isZero 12 = .ok (.aload_n 0, 1) := by decide +kernel
theorem dX4_isZero_13 : decode cX4_isZero 13 = .ok (.iload_n 1, 1) := by decide +kernel
theorem dX4_isZero_14 : decode cX4_isZero 14 = .ok (.invokevirtual 156, 3) := by decide +kernel
theorem dX4_isZero_17 : decode cX4_isZero 17 = .ok (.ifCond .eq 7, 3) := by decide +kernel
theorem dX4_isZero_20 : decode cX4_isZero 20 = .ok (.iconst 1, 1) := by decide +kernel
theorem dX4_isZero_21 : decode cX4_isZero 21 = .ok (.goto 4, 3) := by decide +kernel
theorem dX4_isZero_24 : decode cX4_isZero 24 = .ok (.iconst 0, 1) := by decide +kernel
theorem dX4_isZero_25 : decode cX4_isZero 25 = .ok (.ireturn, 1) := by decide +kernel
theorem dX4_isNegative_0 : decode cX4_isNegative 0 = .ok (.aload_n 0, 1) := by decide +kernel
theorem dX4_isNegative_1 : decode cX4_isNegative 1 = .ok (.iload_n 1, 1) := by decide +kernel
theorem dX4_isNegative_2 : decode cX4_isNegative 2 = .ok (.invokestatic 95, 3) := by decide +kernel
theorem dX4_isNegative_5 : decode cX4_isNegative 5 = .ok (.iconst 0, 1) := by decide +kernel
theorem dX4_isNegative_6 : decode cX4_isNegative 6 = .ok (.invokevirtual 99, 3) := by decide +kernel
theorem dX4_isNegative_9 : decode cX4_isNegative 9 = .ok (.ifCond .ne 15, 3) := by decide +kernel
theorem dX4_isNegative_12 : decode cX4_isNegative 12 = .ok (.aload_n 0, 1) := by decide +kernel
theorem dX4_isNegative_13 : decode cX4_isNegative 13 = .ok (.iload_n 1, 1) := by decide +kernel
theorem dX4_isNegative_14 : decode cX4_isNegative 14 = .ok (.invokevirtual 159, 3) := by decide +kernel
theorem dX4_isNegative_17 : decode cX4_isNegative 17 = .ok (.ifCond .eq 7, 3) := by decide +kernel
theorem dX4_isNegative_20 : decode cX4_isNegative 20 = .ok (.iconst 1, 1) := by decide +kernel
theorem dX4_isNegative_21 : decode cX4_isNegative 21 = .ok (.goto 4, 3) := by decide +kernel
theorem dX4_isNegative_24 : decode cX4_isNegative 24 = .ok (.iconst 0, 1) := by decide +kernel
theorem dX4_isNegative_25 : decode cX4_isNegative 25 = .ok (.ireturn, 1) := by decide +kernel
theorem dX4_areSame_0 : decode cX4_areSame 0 = .ok (.aload_n 0, 1) := by decide +kernel
theorem dX4_areSame_1 : decode cX4_areSame 1 = .ok (.iload_n 1, 1) := by decide +kernel
theorem dX4_areSame_2 : decode cX4_areSame 2 = .ok (.invokestatic 95, 3) := by decide +kernel
theorem dX4_areSame_5 : decode cX4_areSame 5 = .ok (.ifCond .ne 10, 3) := by decide +kernel
theorem dX4_areSame_8 : decode cX4_areSame 8 = .ok (.iload_n 2, 1) := by decide +kernel
theorem dX4_areSame_9 : decode cX4_areSame 9 = .ok (.invokestatic 95, 3) := by decide +kernel
theorem dX4_areSame_12 : decode cX4_areSame 12 = .ok (.ifCond .eq 7, 3) := by decide +kernel
theorem dX4_areSame_15 : decode cX4_areSame 15 = .ok (.iconst 1, 1) := by decide +kernel
theorem dX4_areSame_16 : decode cX4_areSame 16 = .ok (.goto 4, 3) := by decide +kernel
theorem dX4_areSame_19 : decode cX4_areSame 19 = .ok (.iconst 0, 1) := by decide +kernel
theorem dX4_areSame_20 : decode cX4_areSame 20 = .ok (.iconst 0, 1) := by decide +kernel
theorem dX4_areSame_21 : decode cX4_areSame 21 = .ok (.invokevirtual 99, 3) := by decide +kernel
theorem dX4_areSame_24 : decode cX4_areSame 24 = .ok (.ifCond .ne 25, 3) := by decide +kernel
theorem dX4_areSame_27 : decode cX4_areSame 27 = .ok (.aload_n 0, 1) := by decide +kernel
theorem dX4_areSame_28 : decode cX4_areSame 28 = .ok (.getfield 11, 3) := by decide +kernel
theorem dX4_areSame_31 : decode cX4_areSame 31 = .ok (.iload_n 1, 1) := by decide +kernel
theorem dX4_areSame_32 : decode cX4_areSame 32 = .ok (.aaload, 1) := by decide +kernel
theorem dX4_areSame_33 : decode cX4_areSame 33 = .ok (.aload_n 0, 1) := by decide +kernel
theorem dX4_areSame_34 : decode cX4_areSame 34 = .ok (.getfield 11, 3) := by decide +kernel
theorem dX4_areSame_37 : decode cX4_areSame 37 = .ok (.iload_n 2, 1) := by decide +kernel
theorem dX4_areSame_38 : decode cX4_areSame 38 = .ok (.aaload, 1) := by decide +kernel
theorem dX4_areSame_39 : decode cX4_areSame 39 = .ok (.invokestatic 87, 3) := by decide +kernel
theorem dX4_areSame_42 : decode cX4_areSame 42 = .ok (.ifCond .eq 7, 3) := by decide +kernel
theorem dX4_areSame_45 : decode cX4_areSame 45 = .ok (.iconst 1, 1) := by decide +kernel
theorem dX4_areSame_46 : decode cX4_areSame 46 = .ok (.goto 4, 3) := by decide +kernel
theorem dX4_areSame_49 : decode cX4_areSame 49 = .ok (.iconst 0, 1) := by decide +kernel
theorem dX4_areSame_50 : decode cX4_areSame 50 = .ok (.ireturn, 1) := by decide +kernel
theorem dX4_areAlike_0 : decode cX4_areAlike 0 = .ok (.aload_n 0, 1) := by decide +kernel
theorem dX4_areAlike_1 : decode cX4_areAlike 1 = .ok (.iload_n 1, 1) := by decide +kernel
theorem dX4_areAlike_2 : decode cX4_areAlike 2 = .ok (.invokestatic 95, 3) := by decide +kernel
theorem dX4_areAlike_5 : decode cX4_areAlike 5 = .ok (.ifCond .ne 10, 3) := by decide +kernel
theorem dX4_areAlike_8 : decode cX4_areAlike 8 = .ok (.iload_n 2, 1) := by decide +kernel
theorem dX4_areAlike_9 : decode cX4_areAlike 9 = .ok (.invokestatic 95, 3) := by decide +kernel
theorem dX4_areAlike_12 : decode cX4_areAlike 12 = .ok (.ifCond .eq 7, 3) := by decide +kernel
theorem dX4_areAlike_15 : decode cX4_areAlike 15 = .ok (.iconst 1, 1) := by decide +kernel
theorem dX4_areAlike_16 : decode cX4_areAlike 16 = .ok (.goto 4, 3) := by decide +kernel
theorem dX4_areAlike_19 : decode cX4_areAlike 19 = .ok (.iconst 0, 1) := by decide +kernel
theorem dX4_areAlike_20 : decode cX4_areAlike 20 = .ok (.iconst 0, 1) := by decide +kernel
theorem dX4_areAlike_21 : decode cX4_areAlike 21 = .ok (.invokevirtual 99, 3) := by decide +kernel
theorem dX4_areAlike_24 : decode cX4_areAlike 24 = .ok (.ifCond .ne 25, 3) := by decide +kernel
theorem dX4_areAlike_27 : decode cX4_areAlike 27 = .ok (.aload_n 0, 1) := by decide +kernel
theorem dX4_areAlike_28 : decode cX4_areAlike 28 = .ok (.getfield 11, 3) := by decide +kernel
theorem dX4_areAlike_31 : decode cX4_areAlike 31 = .ok (.iload_n 1, 1) := by decide +kernel
theorem dX4_areAlike_32 : decode cX4_areAlike 32 = .ok (.aaload, 1) := by decide +kernel
theorem dX4_areAlike_33 : decode cX4_areAlike 33 = .ok (.aload_n 0, 1) := by decide +kernel
theorem dX4_areAlike_34 : decode cX4_areAlike 34 = .ok (.getfield 11, 3) := by decide +kernel
theorem dX4_areAlike_37 : decode cX4_areAlike 37 = .ok (.iload_n 2, 1) := by decide +kernel
theorem dX4_areAlike_38 : decode cX4_areAlike 38 = .ok (.aaload, 1) := by decide +kernel
theorem dX4_areAlike_39 : decode cX4_areAlike 39 = .ok (.invokestatic 162, 3) := by decide +kernel
theorem dX4_areAlike_42 : decode cX4_areAlike 42 = .ok (.ifCond .eq 7, 3) := by decide +kernel
theorem dX4_areAlike_45 : decode cX4_areAlike 45 = .ok (.iconst 1, 1) := by decide +kernel
theorem dX4_areAlike_46 : decode cX4_areAlike 46 = .ok (.goto 4, 3) := by decide +kernel
theorem dX4_areAlike_49 : decode cX4_areAlike 49 = .ok (.iconst 0, 1) := by decide +kernel
theorem dX4_areAlike_50 : decode cX4_areAlike 50 = .ok (.ireturn, 1) := by decide +kernel
theorem dX4_text_0 : decode cX4_text 0 = .ok (.aload_n 0, 1) := by decide +kernel
theorem dX4_text_1 : decode cX4_text 1 = .ok (.iload_n 1, 1) := by decide +kernel
theorem dX4_text_2 : decode cX4_text 2 = .ok (.invokestatic 95, 3) := by decide +kernel
theorem dX4_text_5 : decode cX4_text 5 = .ok (.iconst 0, 1) := by decide +kernel
theorem dX4_text_6 : decode cX4_text 6 = .ok (.invokevirtual 99, 3) := by decide +kernel
theorem dX4_text_9 : decode cX4_text 9 = .ok (.ifCond .eq 8, 3) := by decide +kernel
theorem dX4_text_12 : decode cX4_text 12 = .ok (.ldc 61, 2) := by decide +kernel
theorem dX4_text_14 : decode cX4_text 14 = .ok (.goto 12, 3) := by decide +kernel
theorem dX4_text_17 : decode cX4_text 17 = .ok (.aload_n 0, 1) := by decide +kernel
theorem dX4_text_18 : decode cX4_text 18 = .ok (.getfield 11, 3) := by decide +kernel
theorem dX4_text_21 : decode cX4_text 21 = .ok (.iload_n 1, 1) := by decide +kernel
theorem dX4_text_22 : decode cX4_text 22 = .ok (.aaload, 1) := by decide +kernel
theorem dX4_text_23 : decode cX4_text 23 = .ok (.invokestatic 145, 3) := by decide +kernel
theorem dX4_text_26 : decode cX4_text 26 = .ok (.areturn, 1) := by decide +kernel
theorem dX4_times_0 : decode cX4_times 0 = .ok (.aload_n 0, 1) := by decide +kernel
theorem dX4_times_1 : decode cX4_times 1 = .ok (.iload_n 1, 1) := by decide +kernel
theorem dX4_times_2 : decode cX4_times 2 = .ok (.invokestatic 95, 3) := by decide +kernel
theorem dX4_times_5 : decode cX4_times 5 = .ok (.iconst 0, 1) := by decide +kernel
theorem dX4_times_6 : decode cX4_times 6 = .ok (.invokevirtual 99, 3) := by decide +kernel
theorem dX4_times_9 : decode cX4_times 9 = .ok (.ifCond .eq 8, 3) := by decide +kernel
theorem dX4_times_12 : decode cX4_times 12 = .ok (.ldc 61, 2) := by decide +kernel
theorem dX4_times_14 : decode cX4_times 14 = .ok (.goto 20, 3) := by decide +kernel
theorem dX4_times_17 : decode cX4_times 17 = .ok (.invokestatic 51, 3) := by decide +kernel
theorem dX4_times_20 : decode cX4_times 20 = .ok (.iload_n 2, 1) := by decide +kernel
theorem dX4_times_21 : decode cX4_times 21 = .ok (.i2l, 1) := by decide +kernel
theorem dX4_times_22 : decode cX4_times 22 = .ok (.aload_n 0, 1) := by decide +kernel
theorem dX4_times_23 : decode cX4_times 23 = .ok (.getfield 11, 3) := by decide +kernel
theorem dX4_times_26 : decode cX4_times 26 = .ok (.iload_n 1, 1) := by decide +kernel
theorem dX4_times_27 : decode cX4_times 27 = .ok (.aaload, 1) := by decide +kernel
theorem dX4_times_28 : decode cX4_times 28 = .ok (.invokestatic 57, 3) := by decide +kernel
theorem dX4_times_31 : decode cX4_times 31 = .ok (.invokestatic 145, 3) := by decide +kernel
theorem dX4_times_34 : decode cX4_times 34 = .ok (.areturn, 1) := by decide +kernel
theorem dX4_added_0 : decode cX4_added 0 = .ok (.aload_n 0, 1) := by decide +kernel
theorem dX4_added_1 : decode cX4_added 1 = .ok (.iload_n 1, 1) := by decide +kernel
theorem dX4_added_2 : decode cX4_added 2 = .ok (.invokestatic 95, 3) := by decide +kernel
theorem dX4_added_5 : decode cX4_added 5 = .ok (.iload_n 2, 1) := by decide +kernel
theorem dX4_added_6 : decode cX4_added 6 = .ok (.i2l, 1) := by decide +kernel
theorem dX4_added_7 : decode cX4_added 7 = .ok (.lconst 0, 1) := by decide +kernel
theorem dX4_added_8 : decode cX4_added 8 = .ok (.ldc2_w 165, 3) := by decide +kernel
theorem dX4_added_11 : decode cX4_added 11 = .ok (.invokestatic 37, 3) := by decide +kernel
theorem dX4_added_14 : decode cX4_added 14 = .ok (.ifCond .ne 7, 3) := by decide +kernel
theorem dX4_added_17 : decode cX4_added 17 = .ok (.iconst 1, 1) := by decide +kernel
theorem dX4_added_18 : decode cX4_added 18 = .ok (.goto 4, 3) := by decide +kernel
theorem dX4_added_21 : decode cX4_added 21 = .ok (.iconst 0, 1) := by decide +kernel
theorem dX4_added_22 : decode cX4_added 22 = .ok (.invokevirtual 99, 3) := by decide +kernel
theorem dX4_added_25 : decode cX4_added 25 = .ok (.ifCond .eq 8, 3) := by decide +kernel
theorem dX4_added_28 : decode cX4_added 28 = .ok (.ldc 61, 2) := by decide +kernel
theorem dX4_added_30 : decode cX4_added 30 = .ok (.goto 16, 3) := by decide +kernel
theorem dX4_added_33 : decode cX4_added 33 = .ok (.aload_n 0, 1) := by decide +kernel
theorem dX4_added_34 : decode cX4_added 34 = .ok (.getfield 11, 3) := by decide +kernel
theorem dX4_added_37 : decode cX4_added 37 = .ok (.iload_n 1, 1) := by decide +kernel
theorem dX4_added_38 : decode cX4_added 38 = .ok (.aaload, 1) := by decide +kernel
theorem dX4_added_39 : decode cX4_added 39 = .ok (.iload_n 2, 1) := by decide +kernel
theorem dX4_added_40 : decode cX4_added 40 = .ok (.invokestatic 167, 3) := by decide +kernel
theorem dX4_added_43 : decode cX4_added 43 = .ok (.invokestatic 145, 3) := by decide +kernel
theorem dX4_added_46 : decode cX4_added 46 = .ok (.areturn, 1) := by decide +kernel
theorem dX4_with_0 : decode cX4_with 0 = .ok (.aload_n 0, 1) := by decide +kernel
theorem dX4_with_1 : decode cX4_with 1 = .ok (.iload_n 1, 1) := by decide +kernel
theorem dX4_with_2 : decode cX4_with 2 = .ok (.invokestatic 95, 3) := by decide +kernel
theorem dX4_with_5 : decode cX4_with 5 = .ok (.ifCond .ne 10, 3) := by decide +kernel
theorem dX4_with_8 : decode cX4_with 8 = .ok (.iload_n 2, 1) := by decide +kernel
theorem dX4_with_9 : decode cX4_with 9 = .ok (.invokestatic 95, 3) := by decide +kernel
theorem dX4_with_12 : decode cX4_with 12 = .ok (.ifCond .eq 7, 3) := by decide +kernel
theorem dX4_with_15 : decode cX4_with 15 = .ok (.iconst 1, 1) := by decide +kernel
theorem dX4_with_16 : decode cX4_with 16 = .ok (.goto 4, 3) := by decide +kernel
theorem dX4_with_19 : decode cX4_with 19 = .ok (.iconst 0, 1) := by decide +kernel
theorem dX4_with_20 : decode cX4_with 20 = .ok (.iconst 0, 1) := by decide +kernel
theorem dX4_with_21 : decode cX4_with 21 = .ok (.invokevirtual 99, 3) := by decide +kernel
theorem dX4_with_24 : decode cX4_with 24 = .ok (.ifCond .eq 8, 3) := by decide +kernel
theorem dX4_with_27 : decode cX4_with 27 = .ok (.ldc 61, 2) := by decide +kernel
theorem dX4_with_29 : decode cX4_with 29 = .ok (.goto 32, 3) := by decide +kernel
theorem dX4_with_32 : decode cX4_with 32 = .ok (.aload_n 0, 1) := by decide +kernel
theorem dX4_with_33 : decode cX4_with 33 = .ok (.getfield 11, 3) := by decide +kernel
theorem dX4_with_36 : decode cX4_with 36 = .ok (.iload_n 1, 1) := by decide +kernel
theorem dX4_with_37 : decode cX4_with 37 = .ok (.aaload, 1) := by decide +kernel
theorem dX4_with_38 : decode cX4_with 38 = .ok (.iload_n 3, 1) := by decide +kernel
theorem dX4_with_39 : decode cX4_with 39 = .ok (.ifCond .eq 9, 3) := by decide +kernel
theorem dX4_with_42 : decode cX4_with 42 = .ok (.ldc2_w 55, 3) := by decide +kernel
theorem dX4_with_45 : decode cX4_with 45 = .ok (.goto 4, 3) := by decide +kernel
theorem dX4_with_48 : decode cX4_with 48 = .ok (.lconst 1, 1) := by decide +kernel
theorem dX4_with_49 : decode cX4_with 49 = .ok (.aload_n 0, 1) := by decide +kernel
theorem dX4_with_50 : decode cX4_with 50 = .ok (.getfield 11, 3) := by decide +kernel
theorem dX4_with_53 : decode cX4_with 53 = .ok (.iload_n 2, 1) := by decide +kernel
theorem dX4_with_54 : decode cX4_with 54 = .ok (.aaload, 1) := by decide +kernel
theorem dX4_with_55 : decode cX4_with 55 = .ok (.invokestatic 57, 3) := by decide +kernel
theorem dX4_with_58 : decode cX4_with 58 = .ok (.invokestatic 145, 3) := by decide +kernel
theorem dX4_with_61 : decode cX4_with 61 = .ok (.areturn, 1) := by decide +kernel
theorem dX4_tidy_0 : decode cX4_tidy 0 = .ok (.aload_n 0, 1) := by decide +kernel
theorem dX4_tidy_1 : decode cX4_tidy 1 = .ok (.iload_n 1, 1) := by decide +kernel
theorem dX4_tidy_2 : decode cX4_tidy 2 = .ok (.invokestatic 95, 3) := by decide +kernel
theorem dX4_tidy_5 : decode cX4_tidy 5 = .ok (.iconst 0, 1) := by decide +kernel
theorem dX4_tidy_6 : decode cX4_tidy 6 = .ok (.invokevirtual 99, 3) := by decide +kernel
theorem dX4_tidy_9 : decode cX4_tidy 9 = .ok (.ifCond .eq 8, 3) := by decide +kernel
theorem dX4_tidy_12 : decode cX4_tidy 12 = .ok (.ldc 61, 2) := by decide +kernel
theorem dX4_tidy_14 : decode cX4_tidy 14 = .ok (.goto 15, 3) := by decide +kernel
theorem dX4_tidy_17 : decode cX4_tidy 17 = .ok (.aload_n 0, 1) := by decide +kernel
theorem dX4_tidy_18 : decode cX4_tidy 18 = .ok (.getfield 11, 3) := by decide +kernel
theorem dX4_tidy_21 : decode cX4_tidy 21 = .ok (.iload_n 1, 1) := by decide +kernel
theorem dX4_tidy_22 : decode cX4_tidy 22 = .ok (.aaload, 1) := by decide +kernel
theorem dX4_tidy_23 : decode cX4_tidy 23 = .ok (.invokestatic 125, 3) := by decide +kernel
theorem dX4_tidy_26 : decode cX4_tidy 26 = .ok (.invokestatic 145, 3) := by decide +kernel
theorem dX4_tidy_29 : decode cX4_tidy 29 = .ok (.areturn, 1) := by decide +kernel
theorem dX4_opposite_0 : decode cX4_opposite 0 = .ok (.aload_n 0, 1) := by decide +kernel
theorem dX4_opposite_1 : decode cX4_opposite 1 = .ok (.iload_n 1, 1) := by decide +kernel
theorem dX4_opposite_2 : decode cX4_opposite 2 = .ok (.invokestatic 95, 3) := by decide +kernel
theorem dX4_opposite_5 : decode cX4_opposite 5 = .ok (.iconst 0, 1) := by decide +kernel
theorem dX4_opposite_6 : decode cX4_opposite 6 = .ok (.invokevirtual 99, 3) := by decide +kernel
theorem dX4_opposite_9 : decode cX4_opposite 9 = .ok (.ifCond .eq 8, 3) := by decide +kernel
theorem dX4_opposite_12 : decode cX4_opposite 12 = .ok (.ldc 61, 2) := by decide +kernel
theorem dX4_opposite_14 : decode cX4_opposite 14 = .ok (.goto 15, 3) := by decide +kernel
theorem dX4_opposite_17 : decode cX4_opposite 17 = .ok (.aload_n 0, 1) := by decide +kernel
theorem dX4_opposite_18 : decode cX4_opposite 18 = .ok (.getfield 11, 3) := by decide +kernel
theorem dX4_opposite_21 : decode cX4_opposite 21 = .ok (.iload_n 1, 1) := by decide +kernel
theorem dX4_opposite_22 : decode cX4_opposite 22 = .ok (.aaload, 1) := by decide +kernel
theorem dX4_opposite_23 : decode cX4_opposite 23 = .ok (.invokestatic 121, 3) := by decide +kernel
theorem dX4_opposite_26 : decode cX4_opposite 26 = .ok (.invokestatic 145, 3) := by decide +kernel
theorem dX4_opposite_29 : decode cX4_opposite 29 = .ok (.areturn, 1) := by decide +kernel
theorem dX4_isLong_0 : decode cX4_isLong 0 = .ok (.iload_n 0, 1) := by decide +kernel
theorem dX4_isLong_1 : decode cX4_isLong 1 = .ok (.iconst 4, 1) := by decide +kernel
theorem dX4_isLong_2 : decode cX4_isLong 2 = .ok (.irem, 1) := by decide +kernel
theorem dX4_isLong_3 : decode cX4_isLong 3 = .ok (.ifCond .ne 22, 3) := by decide +kernel
theorem dX4_isLong_6 : decode cX4_isLong 6 = .ok (.iload_n 0, 1) := by decide +kernel
theorem dX4_isLong_7 : decode cX4_isLong 7 = .ok (.bipush 100, 2) := by decide +kernel
theorem dX4_isLong_9 : decode cX4_isLong 9 = .ok (.irem, 1) := by decide +kernel
theorem dX4_isLong_10 : decode cX4_isLong 10 = .ok (.ifCond .ne 11, 3) := by decide +kernel
theorem dX4_isLong_13 : decode cX4_isLong 13 = .ok (.iload_n 0, 1) := by decide +kernel
theorem dX4_isLong_14 : decode cX4_isLong 14 = .ok (.sipush 400, 3) := by decide +kernel
theorem dX4_isLong_17 : decode cX4_isLong 17 = .ok (.irem, 1) := by decide +kernel
theorem dX4_isLong_18 : decode cX4_isLong 18 = .ok (.ifCond .ne 7, 3) := by decide +kernel
theorem dX4_isLong_21 : decode cX4_isLong 21 = .ok (.iconst 1, 1) := by decide +kernel
theorem dX4_isLong_22 : decode cX4_isLong 22 = .ok (.goto 4, 3) := by decide +kernel
theorem dX4_isLong_25 : decode cX4_isLong 25 = .ok (.iconst 0, 1) := by decide +kernel
theorem dX4_isLong_26 : decode cX4_isLong 26 = .ok (.ireturn, 1) := by decide +kernel
theorem dX4_length_0 : decode cX4_length 0 = .ok (.getstatic 171, 3) := by decide +kernel
theorem dX4_length_3 : decode cX4_length 3 = .ok (.iload_n 1, 1) := by decide +kernel
theorem dX4_length_4 : decode cX4_length 4 = .ok (.iconst 1, 1) := by decide +kernel
theorem dX4_length_5 : decode cX4_length 5 = .ok (.isub, 1) := by decide +kernel
theorem dX4_length_6 : decode cX4_length 6 = .ok (.iaload, 1) := by decide +kernel
theorem dX4_length_7 : decode cX4_length 7 = .ok (.iload_n 1, 1) := by decide +kernel
theorem dX4_length_8 : decode cX4_length 8 = .ok (.iconst 2, 1) := by decide +kernel
theorem dX4_length_9 : decode cX4_length 9 = .ok (.if_icmp .ne 14, 3) := by decide +kernel
theorem dX4_length_12 : decode cX4_length 12 = .ok (.iload_n 0, 1) := by decide +kernel
theorem dX4_length_13 : decode cX4_length 13 = .ok (.invokestatic 174, 3) := by decide +kernel
theorem dX4_length_16 : decode cX4_length 16 = .ok (.ifCond .eq 7, 3) := by decide +kernel
theorem dX4_length_19 : decode cX4_length 19 = .ok (.iconst 1, 1) := by decide +kernel
theorem dX4_length_20 : decode cX4_length 20 = .ok (.goto 4, 3) := by decide +kernel
theorem dX4_length_23 : decode cX4_length 23 = .ok (.iconst 0, 1) := by decide +kernel
theorem dX4_length_24 : decode cX4_length 24 = .ok (.invokestatic 91, 3) := by decide +kernel
theorem dX4_length_27 : decode cX4_length 27 = .ok (.iadd, 1) := by decide +kernel
theorem dX4_length_28 : decode cX4_length 28 = .ok (.ireturn, 1) := by decide +kernel
theorem dX4_daysTo_0 : decode cX4_daysTo 0 = .ok (.iconst 0, 1) := by decide +kernel
theorem dX4_daysTo_1 : decode cX4_daysTo 1 = .ok (.istore_n 1, 1) := by decide +kernel
theorem dX4_daysTo_2 : decode cX4_daysTo 2 = .ok (.sipush 1600, 3) := by decide +kernel
theorem dX4_daysTo_5 : decode cX4_daysTo 5 = .ok (.istore_n 2, 1) := by decide +kernel
theorem dX4_daysTo_6 : decode cX4_daysTo 6 = .ok (.iload_n 2, 1) := by decide +kernel
theorem dX4_daysTo_7 : decode cX4_daysTo 7 = .ok (.iload_n 0, 1) := by decide +kernel
theorem dX4_daysTo_8 : decode cX4_daysTo 8 = .ok (.if_icmp .ge 23, 3) := by decide +kernel
theorem dX4_daysTo_11 : decode cX4_daysTo 11 = .ok (.iload_n 1, 1) := by decide +kernel
theorem dX4_daysTo_12 : decode cX4_daysTo 12 = .ok (.sipush 365, 3) := by decide +kernel
theorem dX4_daysTo_15 : decode cX4_daysTo 15 = .ok (.iload_n 2, 1) := by decide +kernel
theorem dX4_daysTo_16 : decode cX4_daysTo 16 = .ok (.invokestatic 174, 3) := by decide +kernel
theorem dX4_daysTo_19 : decode cX4_daysTo 19 = .ok (.invokestatic 91, 3) := by decide +kernel
theorem dX4_daysTo_22 : decode cX4_daysTo 22 = .ok (.iadd, 1) := by decide +kernel
theorem dX4_daysTo_23 : decode cX4_daysTo 23 = .ok (.iadd, 1) := by decide +kernel
theorem dX4_daysTo_24 : decode cX4_daysTo 24 = .ok (.istore_n 1, 1) := by decide +kernel
theorem dX4_daysTo_25 : decode cX4_daysTo 25 = .ok (.iinc 2 1, 3) := by decide +kernel
theorem dX4_daysTo_28 : decode cX4_daysTo 28 = .ok (.goto (-22), 3) := by decide +kernel
theorem dX4_daysTo_31 : decode cX4_daysTo 31 = .ok (.iload_n 1, 1) := by decide +kernel
theorem dX4_daysTo_32 : decode cX4_daysTo 32 = .ok (.ireturn, 1) := by decide +kernel
theorem dX4_number_0 : decode cX4_number 0 = .ok (.aload_n 0, 1) := by decide +kernel
theorem dX4_number_1 : decode cX4_number 1 = .ok (.iconst 0, 1) := by decide +kernel
theorem dX4_number_2 : decode cX4_number 2 = .ok (.iaload, 1) := by decide +kernel
theorem dX4_number_3 : decode cX4_number 3 = .ok (.invokestatic 177, 3) := by decide +kernel
theorem dX4_number_6 : decode cX4_number 6 = .ok (.sipush 1970, 3) := by decide +kernel
theorem dX4_number_9 : decode cX4_number 9 = .ok (.invokestatic 177, 3) := by decide +kernel
theorem dX4_number_12 : decode cX4_number 12 = .ok (.isub, 1) := by decide +kernel
theorem dX4_number_13 : decode cX4_number 13 = .ok (.aload_n 0, 1) := by decide +kernel
theorem dX4_number_14 : decode cX4_number 14 = .ok (.iconst 2, 1) := by decide +kernel
theorem dX4_number_15 : decode cX4_number 15 = .ok (.iaload, 1) := by decide +kernel
theorem dX4_number_16 : decode cX4_number 16 = .ok (.iadd, 1) := by decide +kernel
theorem dX4_number_17 : decode cX4_number 17 = .ok (.iconst 1, 1) := by decide +kernel
theorem dX4_number_18 : decode cX4_number 18 = .ok (.isub, 1) := by decide +kernel
theorem dX4_number_19 : decode cX4_number 19 = .ok (.istore_n 1, 1) := by decide +kernel
theorem dX4_number_20 : decode cX4_number 20 = .ok (.iconst 1, 1) := by decide +kernel
theorem dX4_number_21 : decode cX4_number 21 = .ok (.istore_n 2, 1) := by decide +kernel
theorem dX4_number_22 : decode cX4_number 22 = .ok (.iload_n 2, 1) := by decide +kernel
theorem dX4_number_23 : decode cX4_number 23 = .ok (.aload_n 0, 1) := by decide +kernel
theorem dX4_number_24 : decode cX4_number 24 = .ok (.iconst 1, 1) := by decide +kernel
theorem dX4_number_25 : decode cX4_number 25 = .ok (.iaload, 1) := by decide +kernel
theorem dX4_number_26 : decode cX4_number 26 = .ok (.if_icmp .ge 19, 3) := by decide +kernel
theorem dX4_number_29 : decode cX4_number 29 = .ok (.iload_n 1, 1) := by decide +kernel
theorem dX4_number_30 : decode cX4_number 30 = .ok (.aload_n 0, 1) := by decide +kernel
theorem dX4_number_31 : decode cX4_number 31 = .ok (.iconst 0, 1) := by decide +kernel
theorem dX4_number_32 : decode cX4_number 32 = .ok (.iaload, 1) := by decide +kernel
theorem dX4_number_33 : decode cX4_number 33 = .ok (.iload_n 2, 1) := by decide +kernel
theorem dX4_number_34 : decode cX4_number 34 = .ok (.invokestatic 181, 3) := by decide +kernel
theorem dX4_number_37 : decode cX4_number 37 = .ok (.iadd, 1) := by decide +kernel
theorem dX4_number_38 : decode cX4_number 38 = .ok (.istore_n 1, 1) := by decide +kernel
theorem dX4_number_39 : decode cX4_number 39 = .ok (.iinc 2 1, 3) := by decide +kernel
theorem dX4_number_42 : decode cX4_number 42 = .ok (.goto (-20), 3) := by decide +kernel
theorem dX4_number_45 : decode cX4_number 45 = .ok (.iload_n 1, 1) := by decide +kernel
theorem dX4_number_46 : decode cX4_number 46 = .ok (.ireturn, 1) := by decide +kernel
theorem dX4_dateOf_0 : decode cX4_dateOf 0 = .ok (.lload_n 0, 1) := by decide +kernel
theorem dX4_dateOf_1 : decode cX4_dateOf 1 = .ok (.sipush 1970, 3) := by decide +kernel
theorem dX4_dateOf_4 : decode cX4_dateOf 4 = .ok (.invokestatic 177, 3) := by decide +kernel
theorem dX4_dateOf_7 : decode cX4_dateOf 7 = .ok (.i2l, 1) := by decide +kernel
theorem dX4_dateOf_8 : decode cX4_dateOf 8 = .ok (.ladd, 1) := by decide +kernel
theorem dX4_dateOf_9 : decode cX4_dateOf 9 = .ok (.lstore_n 2, 1) := by decide +kernel
theorem dX4_dateOf_10 : decode cX4_dateOf 10 = .ok (.lload_n 2, 1) := by decide +kernel
theorem dX4_dateOf_11 : decode cX4_dateOf 11 = .ok (.lconst 0, 1) := by decide +kernel
theorem dX4_dateOf_12 : decode cX4_dateOf 12 = .ok (.sipush 2401, 3) := by decide +kernel
theorem dX4_dateOf_15 : decode cX4_dateOf 15 = .ok (.invokestatic 177, 3) := by decide +kernel
theorem dX4_dateOf_18 : decode cX4_dateOf 18 = .ok (.iconst 1, 1) := by decide +kernel
theorem dX4_dateOf_19 : decode cX4_dateOf 19 = .ok (.isub, 1) := by decide +kernel
theorem dX4_dateOf_20 : decode cX4_dateOf 20 = .ok (.i2l, 1) := by decide +kernel
theorem dX4_dateOf_21 : decode cX4_dateOf 21 = .ok (.invokestatic 37, 3) := by decide +kernel
theorem dX4_dateOf_24 : decode cX4_dateOf 24 = .ok (.ifCond .ne 5, 3) := by decide +kernel
theorem dX4_dateOf_27 : decode cX4_dateOf 27 = .ok (.aconst_null, 1) := by decide +kernel
theorem dX4_dateOf_28 : decode cX4_dateOf 28 = .ok (.areturn, 1) := by decide +kernel
theorem dX4_dateOf_29 : decode cX4_dateOf 29 = .ok (.sipush 1600, 3) := by decide +kernel
theorem dX4_dateOf_32 : decode cX4_dateOf 32 = .ok (.istore 4, 2) := by decide +kernel
theorem dX4_dateOf_34 : decode cX4_dateOf 34 = .ok (.lload_n 2, 1) := by decide +kernel
theorem dX4_dateOf_35 : decode cX4_dateOf 35 = .ok (.sipush 365, 3) := by decide +kernel
theorem dX4_dateOf_38 : decode cX4_dateOf 38 = .ok (.iload 4, 2) := by decide +kernel
theorem dX4_dateOf_40 : decode cX4_dateOf 40 = .ok (.invokestatic 174, 3) := by decide +kernel
theorem dX4_dateOf_43 : decode cX4_dateOf 43 = .ok (.invokestatic 91, 3) := by decide +kernel
theorem dX4_dateOf_46 : decode cX4_dateOf 46 = .ok (.iadd, 1) := by decide +kernel
theorem dX4_dateOf_47 : decode cX4_dateOf 47 = .ok (.i2l, 1) := by decide +kernel
theorem dX4_dateOf_48 : decode cX4_dateOf 48 = .ok (.lcmp, 1) := by decide +kernel
theorem dX4_dateOf_49 : decode cX4_dateOf 49 = .ok (.ifCond .lt 25, 3) := by decide +kernel
theorem dX4_dateOf_52 : decode cX4_dateOf 52 = .ok (.lload_n 2, 1) := by decide +kernel
theorem dX4_dateOf_53 : decode cX4_dateOf 53 = .ok (.sipush 365, 3) := by decide +kernel
theorem dX4_dateOf_56 : decode cX4_dateOf 56 = .ok (.iload 4, 2) := by decide +kernel
theorem dX4_dateOf_58 : decode cX4_dateOf 58 = .ok (.invokestatic 174, 3) := by decide +kernel
theorem dX4_dateOf_61 : decode cX4_dateOf 61 = .ok (.invokestatic 91, 3) := by decide +kernel
theorem dX4_dateOf_64 : decode cX4_dateOf 64 = .ok (.iadd, 1) := by decide +kernel
theorem dX4_dateOf_65 : decode cX4_dateOf 65 = .ok (.i2l, 1) := by decide +kernel
theorem dX4_dateOf_66 : decode cX4_dateOf 66 = .ok (.lsub, 1) := by decide +kernel
theorem dX4_dateOf_67 : decode cX4_dateOf 67 = .ok (.lstore_n 2, 1) := by decide +kernel
theorem dX4_dateOf_68 : decode cX4_dateOf 68 = .ok (.iinc 4 1, 3) := by decide +kernel
theorem dX4_dateOf_71 : decode cX4_dateOf 71 = .ok (.goto (-37), 3) := by decide +kernel
theorem dX4_dateOf_74 : decode cX4_dateOf 74 = .ok (.iconst 1, 1) := by decide +kernel
theorem dX4_dateOf_75 : decode cX4_dateOf 75 = .ok (.istore 5, 2) := by decide +kernel
theorem dX4_dateOf_77 : decode cX4_dateOf 77 = .ok (.lload_n 2, 1) := by decide +kernel
theorem dX4_dateOf_78 : decode cX4_dateOf 78 = .ok (.iload 4, 2) := by decide +kernel
theorem dX4_dateOf_80 : decode cX4_dateOf 80 = .ok (.iload 5, 2) := by decide +kernel
theorem dX4_dateOf_82 : decode cX4_dateOf 82 = .ok (.invokestatic 181, 3) := by decide +kernel
theorem dX4_dateOf_85 : decode cX4_dateOf 85 = .ok (.i2l, 1) := by decide +kernel
theorem dX4_dateOf_86 : decode cX4_dateOf 86 = .ok (.lcmp, 1) := by decide +kernel
theorem dX4_dateOf_87 : decode cX4_dateOf 87 = .ok (.ifCond .lt 20, 3) := by decide +kernel
theorem dX4_dateOf_90 : decode cX4_dateOf 90 = .ok (.lload_n 2, 1) := by decide +kernel
theorem dX4_dateOf_91 : decode cX4_dateOf 91 = .ok (.iload 4, 2) := by decide +kernel
theorem dX4_dateOf_93 : decode cX4_dateOf 93 = .ok (.iload 5, 2) := by decide +kernel
theorem dX4_dateOf_95 : decode cX4_dateOf 95 = .ok (.invokestatic 181, 3) := by decide +kernel
theorem dX4_dateOf_98 : decode cX4_dateOf 98 = .ok (.i2l, 1) := by decide +kernel
theorem dX4_dateOf_99 : decode cX4_dateOf 99 = .ok (.lsub, 1) := by decide +kernel
theorem dX4_dateOf_100 : decode cX4_dateOf 100 = .ok (.lstore_n 2, 1) := by decide +kernel
theorem dX4_dateOf_101 : decode cX4_dateOf 101 = .ok (.iinc 5 1, 3) := by decide +kernel
theorem dX4_dateOf_104 : decode cX4_dateOf 104 = .ok (.goto (-27), 3) := by decide +kernel
theorem dX4_dateOf_107 : decode cX4_dateOf 107 = .ok (.iconst 3, 1) := by decide +kernel
theorem dX4_dateOf_108 : decode cX4_dateOf 108 = .ok (.newarray .int, 2) := by decide +kernel
theorem dX4_dateOf_110 : decode cX4_dateOf 110 = .ok (.dup, 1) := by decide +kernel
theorem dX4_dateOf_111 : decode cX4_dateOf 111 = .ok (.iconst 0, 1) := by decide +kernel
theorem dX4_dateOf_112 : decode cX4_dateOf 112 = .ok (.iload 4, 2) := by decide +kernel
theorem dX4_dateOf_114 : decode cX4_dateOf 114 = .ok (.iastore, 1) := by decide +kernel
theorem dX4_dateOf_115 : decode cX4_dateOf 115 = .ok (.dup, 1) := by decide +kernel
theorem dX4_dateOf_116 : decode cX4_dateOf 116 = .ok (.iconst 1, 1) := by decide +kernel
theorem dX4_dateOf_117 : decode cX4_dateOf 117 = .ok (.iload 5, 2) := by decide +kernel
theorem dX4_dateOf_119 : decode cX4_dateOf 119 = .ok (.iastore, 1) := by decide +kernel
theorem dX4_dateOf_120 : decode cX4_dateOf 120 = .ok (.dup, 1) := by decide +kernel
theorem dX4_dateOf_121 : decode cX4_dateOf 121 = .ok (.iconst 2, 1) := by decide +kernel
theorem dX4_dateOf_122 : decode cX4_dateOf 122 = .ok (.lload_n 2, 1) := by decide +kernel
theorem dX4_dateOf_123 : decode cX4_dateOf 123 = .ok (.l2i, 1) := by decide +kernel
theorem dX4_dateOf_124 : decode cX4_dateOf 124 = .ok (.iconst 1, 1) := by decide +kernel
theorem dX4_dateOf_125 : decode cX4_dateOf 125 = .ok (.iadd, 1) := by decide +kernel
theorem dX4_dateOf_126 : decode cX4_dateOf 126 = .ok (.iastore, 1) := by decide +kernel
theorem dX4_dateOf_127 : decode cX4_dateOf 127 = .ok (.areturn, 1) := by decide +kernel
theorem dX4_onByMonths_0 : decode cX4_onByMonths 0 = .ok (.ldc2_w 41, 3) := by decide +kernel
theorem dX4_onByMonths_3 : decode cX4_onByMonths 3 = .ok (.aload_n 0, 1) := by decide +kernel
theorem dX4_onByMonths_4 : decode cX4_onByMonths 4 = .ok (.iconst 0, 1) := by decide +kernel
theorem dX4_onByMonths_5 : decode cX4_onByMonths 5 = .ok (.iaload, 1) := by decide +kernel
theorem dX4_onByMonths_6 : decode cX4_onByMonths 6 = .ok (.i2l, 1) := by decide +kernel
theorem dX4_onByMonths_7 : decode cX4_onByMonths 7 = .ok (.lmul, 1) := by decide +kernel
theorem dX4_onByMonths_8 : decode cX4_onByMonths 8 = .ok (.aload_n 0, 1) := by decide +kernel
theorem dX4_onByMonths_9 : decode cX4_onByMonths 9 = .ok (.iconst 1, 1) := by decide +kernel
theorem dX4_onByMonths_10 : decode cX4_onByMonths 10 = .ok (.iaload, 1) := by decide +kernel
theorem dX4_onByMonths_11 : decode cX4_onByMonths 11 = .ok (.i2l, 1) := by decide +kernel
theorem dX4_onByMonths_12 : decode cX4_onByMonths 12 = .ok (.ladd, 1) := by decide +kernel
theorem dX4_onByMonths_13 : decode cX4_onByMonths 13 = .ok (.lconst 1, 1) := by decide +kernel
theorem dX4_onByMonths_14 : decode cX4_onByMonths 14 = .ok (.lsub, 1) := by decide +kernel
theorem dX4_onByMonths_15 : decode cX4_onByMonths 15 = .ok (.lload_n 1, 1) := by decide +kernel
theorem dX4_onByMonths_16 : decode cX4_onByMonths 16 = .ok (.ladd, 1) := by decide +kernel
theorem dX4_onByMonths_17 : decode cX4_onByMonths 17 = .ok (.lstore_n 3, 1) := by decide +kernel
theorem dX4_onByMonths_18 : decode cX4_onByMonths 18 = .ok (.lload_n 3, 1) := by decide +kernel
theorem dX4_onByMonths_19 : decode cX4_onByMonths 19 = .ok (.ldc2_w 185, 3) := by decide +kernel
theorem dX4_onByMonths_22 : decode cX4_onByMonths 22 = .ok (.ldc2_w 187, 3) := by decide +kernel
theorem dX4_onByMonths_25 : decode cX4_onByMonths 25 = .ok (.invokestatic 37, 3) := by decide +kernel
theorem dX4_onByMonths_28 : decode cX4_onByMonths 28 = .ok (.ifCond .ne 5, 3) := by decide +kernel
theorem dX4_onByMonths_31 : decode cX4_onByMonths 31 = .ok (.aconst_null, 1) := by decide +kernel
theorem dX4_onByMonths_32 : decode cX4_onByMonths 32 = .ok (.areturn, 1) := by decide +kernel
theorem dX4_onByMonths_33 : decode cX4_onByMonths 33 = .ok (.lload_n 3, 1) := by decide +kernel
theorem dX4_onByMonths_34 : decode cX4_onByMonths 34 = .ok (.ldc2_w 41, 3) := by decide +kernel
theorem dX4_onByMonths_37 : decode cX4_onByMonths 37 = .ok (.ldiv, 1) := by decide +kernel
theorem dX4_onByMonths_38 : decode cX4_onByMonths 38 = .ok (.l2i, 1) := by decide +kernel
theorem dX4_onByMonths_39 : decode cX4_onByMonths 39 = .ok (.istore 5, 2) := by decide +kernel
theorem dX4_onByMonths_41 : decode cX4_onByMonths 41 = .ok (.lload_n 3, 1) := by decide +kernel
theorem dX4_onByMonths_42 : decode cX4_onByMonths 42 = .ok (.ldc2_w 41, 3) := by decide +kernel
theorem dX4_onByMonths_45 : decode cX4_onByMonths 45 = .ok (.lrem, 1) := by decide +kernel
theorem dX4_onByMonths_46 : decode cX4_onByMonths 46 = .ok (.l2i, 1) := by decide +kernel
theorem dX4_onByMonths_47 : decode cX4_onByMonths 47 = .ok (.iconst 1, 1) := by decide +kernel
theorem dX4_onByMonths_48 : decode cX4_onByMonths 48 = .ok (.iadd, 1) := by decide +kernel
theorem dX4_onByMonths_49 : decode cX4_onByMonths 49 = .ok (.istore 6, 2) := by decide +kernel
theorem dX4_onByMonths_51 : decode cX4_onByMonths 51 = .ok (.iconst 3, 1) := by decide +kernel
theorem dX4_onByMonths_52 : decode cX4_onByMonths 52 = .ok (.newarray .int, 2) := by decide +kernel
theorem dX4_onByMonths_54 : decode cX4_onByMonths 54 = .ok (.dup, 1) := by decide +kernel
theorem dX4_onByMonths_55 : decode cX4_onByMonths 55 = .ok (.iconst 0, 1) := by decide +kernel
theorem dX4_onByMonths_56 : decode cX4_onByMonths 56 = .ok (.iload 5, 2) := by decide +kernel
theorem dX4_onByMonths_58 : decode cX4_onByMonths 58 = .ok (.iastore, 1) := by decide +kernel
theorem dX4_onByMonths_59 : decode cX4_onByMonths 59 = .ok (.dup, 1) := by decide +kernel
theorem dX4_onByMonths_60 : decode cX4_onByMonths 60 = .ok (.iconst 1, 1) := by decide +kernel
theorem dX4_onByMonths_61 : decode cX4_onByMonths 61 = .ok (.iload 6, 2) := by decide +kernel
theorem dX4_onByMonths_63 : decode cX4_onByMonths 63 = .ok (.iastore, 1) := by decide +kernel
theorem dX4_onByMonths_64 : decode cX4_onByMonths 64 = .ok (.dup, 1) := by decide +kernel
theorem dX4_onByMonths_65 : decode cX4_onByMonths 65 = .ok (.iconst 2, 1) := by decide +kernel
theorem dX4_onByMonths_66 : decode cX4_onByMonths 66 = .ok (.aload_n 0, 1) := by decide +kernel
theorem dX4_onByMonths_67 : decode cX4_onByMonths 67 = .ok (.iconst 2, 1) := by decide +kernel
theorem dX4_onByMonths_68 : decode cX4_onByMonths 68 = .ok (.iaload, 1) := by decide +kernel
theorem dX4_onByMonths_69 : decode cX4_onByMonths 69 = .ok (.iload 5, 2) := by decide +kernel
theorem dX4_onByMonths_71 : decode cX4_onByMonths 71 = .ok (.iload 6, 2) := by decide +kernel
theorem dX4_onByMonths_73 : decode cX4_onByMonths 73 = .ok (.invokestatic 181, 3) := by decide +kernel
theorem dX4_onByMonths_76 : decode cX4_onByMonths 76 = .ok (.invokestatic 189, 3) := by decide +kernel
theorem dX4_onByMonths_79 : decode cX4_onByMonths 79 = .ok (.iastore, 1) := by decide +kernel
theorem dX4_onByMonths_80 : decode cX4_onByMonths 80 = .ok (.areturn, 1) := by decide +kernel
theorem dX4_onBy_0 : decode cX4_onBy 0 = .ok (.aload_n 0, 1) := by decide +kernel
theorem dX4_onBy_1 : decode cX4_onBy 1 = .ok (.iload_n 2, 1) := by decide +kernel
theorem dX4_onBy_2 : decode cX4_onBy 2 = .ok (.i2l, 1) := by decide +kernel
theorem dX4_onBy_3 : decode cX4_onBy 3 = .ok (.aload_n 1, 1) := by decide +kernel
theorem dX4_onBy_4 : decode cX4_onBy 4 = .ok (.invokestatic 43, 3) := by decide +kernel
theorem dX4_onBy_7 : decode cX4_onBy 7 = .ok (.lmul, 1) := by decide +kernel
theorem dX4_onBy_8 : decode cX4_onBy 8 = .ok (.invokestatic 194, 3) := by decide +kernel
theorem dX4_onBy_11 : decode cX4_onBy 11 = .ok (.astore_n 3, 1) := by decide +kernel
theorem dX4_onBy_12 : decode cX4_onBy 12 = .ok (.aload_n 3, 1) := by decide +kernel
theorem dX4_onBy_13 : decode cX4_onBy 13 = .ok (.ifnonnull 7, 3) := by decide +kernel
theorem dX4_onBy_16 : decode cX4_onBy 16 = .ok (.aconst_null, 1) := by decide +kernel
theorem dX4_onBy_17 : decode cX4_onBy 17 = .ok (.goto 19, 3) := by decide +kernel
theorem dX4_onBy_20 : decode cX4_onBy 20 = .ok (.aload_n 3, 1) := by decide +kernel
theorem dX4_onBy_21 : decode cX4_onBy 21 = .ok (.invokestatic 198, 3) := by decide +kernel
theorem dX4_onBy_24 : decode cX4_onBy 24 = .ok (.i2l, 1) := by decide +kernel
theorem dX4_onBy_25 : decode cX4_onBy 25 = .ok (.iload_n 2, 1) := by decide +kernel
theorem dX4_onBy_26 : decode cX4_onBy 26 = .ok (.i2l, 1) := by decide +kernel
theorem dX4_onBy_27 : decode cX4_onBy 27 = .ok (.aload_n 1, 1) := by decide +kernel
theorem dX4_onBy_28 : decode cX4_onBy 28 = .ok (.iconst 2, 1) := by decide +kernel
theorem dX4_onBy_29 : decode cX4_onBy 29 = .ok (.iaload, 1) := by decide +kernel
theorem dX4_onBy_30 : decode cX4_onBy 30 = .ok (.i2l, 1) := by decide +kernel
theorem dX4_onBy_31 : decode cX4_onBy 31 = .ok (.lmul, 1) := by decide +kernel
theorem dX4_onBy_32 : decode cX4_onBy 32 = .ok (.ladd, 1) := by decide +kernel
theorem dX4_onBy_33 : decode cX4_onBy 33 = .ok (.invokestatic 202, 3) := by decide +kernel
theorem dX4_onBy_36 : decode cX4_onBy 36 = .ok (.areturn, 1) := by decide +kernel
theorem dX4_apart_0 : decode cX4_apart 0 = .ok (.bipush 12, 2) := by decide +kernel
theorem dX4_apart_2 : decode cX4_apart 2 = .ok (.aload_n 1, 1) := by decide +kernel
theorem dX4_apart_3 : decode cX4_apart 3 = .ok (.iconst 0, 1) := by decide +kernel
theorem dX4_apart_4 : decode cX4_apart 4 = .ok (.iaload, 1) := by decide +kernel
theorem dX4_apart_5 : decode cX4_apart 5 = .ok (.aload_n 0, 1) := by decide +kernel
theorem dX4_apart_6 : decode cX4_apart 6 = .ok (.iconst 0, 1) := by decide +kernel
theorem dX4_apart_7 : decode cX4_apart 7 = .ok (.iaload, 1) := by decide +kernel
theorem dX4_apart_8 : decode cX4_apart 8 = .ok (.isub, 1) := by decide +kernel
theorem dX4_apart_9 : decode cX4_apart 9 = .ok (.imul, 1) := by decide +kernel
theorem dX4_apart_10 : decode cX4_apart 10 = .ok (.aload_n 1, 1) := by decide +kernel
theorem dX4_apart_11 : decode cX4_apart 11 = .ok (.iconst 1, 1) := by decide +kernel
theorem dX4_apart_12 : decode cX4_apart 12 = .ok (.iaload, 1) := by decide +kernel
theorem dX4_apart_13 : decode cX4_apart 13 = .ok (.iadd, 1) := by decide +kernel
theorem dX4_apart_14 : decode cX4_apart 14 = .ok (.aload_n 0, 1) := by decide +kernel
theorem dX4_apart_15 : decode cX4_apart 15 = .ok (.iconst 1, 1) := by decide +kernel
theorem dX4_apart_16 : decode cX4_apart 16 = .ok (.iaload, 1) := by decide +kernel
theorem dX4_apart_17 : decode cX4_apart 17 = .ok (.isub, 1) := by decide +kernel
theorem dX4_apart_18 : decode cX4_apart 18 = .ok (.istore_n 2, 1) := by decide +kernel
theorem dX4_apart_19 : decode cX4_apart 19 = .ok (.aload_n 1, 1) := by decide +kernel
theorem dX4_apart_20 : decode cX4_apart 20 = .ok (.invokestatic 198, 3) := by decide +kernel
theorem dX4_apart_23 : decode cX4_apart 23 = .ok (.aload_n 0, 1) := by decide +kernel
theorem dX4_apart_24 : decode cX4_apart 24 = .ok (.invokestatic 198, 3) := by decide +kernel
theorem dX4_apart_27 : decode cX4_apart 27 = .ok (.if_icmp .ge 7, 3) := by decide +kernel
theorem dX4_apart_30 : decode cX4_apart 30 = .ok (.iconst 1, 1) := by decide +kernel
theorem dX4_apart_31 : decode cX4_apart 31 = .ok (.goto 4, 3) := by decide +kernel
theorem dX4_apart_34 : decode cX4_apart 34 = .ok (.iconst 0, 1) := by decide +kernel
theorem dX4_apart_35 : decode cX4_apart 35 = .ok (.istore_n 3, 1) := by decide +kernel
theorem dX4_apart_36 : decode cX4_apart 36 = .ok (.iload_n 3, 1) := by decide +kernel
theorem dX4_apart_37 : decode cX4_apart 37 = .ok (.ifCond .eq 13, 3) := by decide +kernel
theorem dX4_apart_40 : decode cX4_apart 40 = .ok (.aload_n 0, 1) := by decide +kernel
theorem dX4_apart_41 : decode cX4_apart 41 = .ok (.iconst 2, 1) := by decide +kernel
theorem dX4_apart_42 : decode cX4_apart 42 = .ok (.iaload, 1) := by decide +kernel
theorem dX4_apart_43 : decode cX4_apart 43 = .ok (.bipush 28, 2) := by decide +kernel
theorem dX4_apart_45 : decode cX4_apart 45 = .ok (.if_icmp .le 5, 3) := by decide +kernel
theorem dX4_apart_48 : decode cX4_apart 48 = .ok (.aconst_null, 1) := by decide +kernel
theorem dX4_apart_49 : decode cX4_apart 49 = .ok (.areturn, 1) := by decide +kernel
theorem dX4_apart_50 : decode cX4_apart 50 = .ok (.iload_n 3, 1) := by decide +kernel
theorem dX4_apart_51 : decode cX4_apart 51 = .ok (.ifCond .ne 15, 3) := by decide +kernel
theorem dX4_apart_54 : decode cX4_apart 54 = .ok (.aload_n 1, 1) := by decide +kernel
theorem dX4_apart_55 : decode cX4_apart 55 = .ok (.iconst 2, 1) := by decide +kernel
theorem dX4_apart_56 : decode cX4_apart 56 = .ok (.iaload, 1) := by decide +kernel
theorem dX4_apart_57 : decode cX4_apart 57 = .ok (.aload_n 0, 1) := by decide +kernel
theorem dX4_apart_58 : decode cX4_apart 58 = .ok (.iconst 2, 1) := by decide +kernel
theorem dX4_apart_59 : decode cX4_apart 59 = .ok (.iaload, 1) := by decide +kernel
theorem dX4_apart_60 : decode cX4_apart 60 = .ok (.if_icmp .ge 6, 3) := by decide +kernel
theorem dX4_apart_63 : decode cX4_apart 63 = .ok (.iinc 2 (-1), 3) := by decide +kernel
theorem dX4_apart_66 : decode cX4_apart 66 = .ok (.iload_n 3, 1) := by decide +kernel
theorem dX4_apart_67 : decode cX4_apart 67 = .ok (.ifCond .eq 19, 3) := by decide +kernel
theorem dX4_apart_70 : decode cX4_apart 70 = .ok (.aload_n 1, 1) := by decide +kernel
theorem dX4_apart_71 : decode cX4_apart 71 = .ok (.iconst 2, 1) := by decide +kernel
theorem dX4_apart_72 : decode cX4_apart 72 = .ok (.iaload, 1) := by decide +kernel
theorem dX4_apart_73 : decode cX4_apart 73 = .ok (.aload_n 0, 1) := by decide +kernel
theorem dX4_apart_74 : decode cX4_apart 74 = .ok (.iconst 2, 1) := by decide +kernel
theorem dX4_apart_75 : decode cX4_apart 75 = .ok (.iaload, 1) := by decide +kernel
theorem dX4_apart_76 : decode cX4_apart 76 = .ok (.if_icmp .le 10, 3) := by decide +kernel
theorem dX4_apart_79 : decode cX4_apart 79 = .ok (.iload_n 2, 1) := by decide +kernel
theorem dX4_apart_80 : decode cX4_apart 80 = .ok (.ifCond .ge 6, 3) := by decide +kernel
theorem dX4_apart_83 : decode cX4_apart 83 = .ok (.iinc 2 1, 3) := by decide +kernel
theorem dX4_apart_86 : decode cX4_apart 86 = .ok (.iconst 3, 1) := by decide +kernel
theorem dX4_apart_87 : decode cX4_apart 87 = .ok (.newarray .int, 2) := by decide +kernel
theorem dX4_apart_89 : decode cX4_apart 89 = .ok (.dup, 1) := by decide +kernel
theorem dX4_apart_90 : decode cX4_apart 90 = .ok (.iconst 0, 1) := by decide +kernel
theorem dX4_apart_91 : decode cX4_apart 91 = .ok (.iload_n 2, 1) := by decide +kernel
theorem dX4_apart_92 : decode cX4_apart 92 = .ok (.bipush 12, 2) := by decide +kernel
theorem dX4_apart_94 : decode cX4_apart 94 = .ok (.idiv, 1) := by decide +kernel
theorem dX4_apart_95 : decode cX4_apart 95 = .ok (.iastore, 1) := by decide +kernel
theorem dX4_apart_96 : decode cX4_apart 96 = .ok (.dup, 1) := by decide +kernel
theorem dX4_apart_97 : decode cX4_apart 97 = .ok (.iconst 1, 1) := by decide +kernel
theorem dX4_apart_98 : decode cX4_apart 98 = .ok (.iload_n 2, 1) := by decide +kernel
theorem dX4_apart_99 : decode cX4_apart 99 = .ok (.bipush 12, 2) := by decide +kernel
theorem dX4_apart_101 : decode cX4_apart 101 = .ok (.irem, 1) := by decide +kernel
theorem dX4_apart_102 : decode cX4_apart 102 = .ok (.iastore, 1) := by decide +kernel
theorem dX4_apart_103 : decode cX4_apart 103 = .ok (.dup, 1) := by decide +kernel
theorem dX4_apart_104 : decode cX4_apart 104 = .ok (.iconst 2, 1) := by decide +kernel
theorem dX4_apart_105 : decode cX4_apart 105 = .ok (.aload_n 1, 1) := by decide +kernel
theorem dX4_apart_106 : decode cX4_apart 106 = .ok (.invokestatic 198, 3) := by decide +kernel
theorem dX4_apart_109 : decode cX4_apart 109 = .ok (.aload_n 0, 1) := by decide +kernel
theorem dX4_apart_110 : decode cX4_apart 110 = .ok (.iload_n 2, 1) := by decide +kernel
theorem dX4_apart_111 : decode cX4_apart 111 = .ok (.i2l, 1) := by decide +kernel
theorem dX4_apart_112 : decode cX4_apart 112 = .ok (.invokestatic 194, 3) := by decide +kernel
theorem dX4_apart_115 : decode cX4_apart 115 = .ok (.invokestatic 198, 3) := by decide +kernel
theorem dX4_apart_118 : decode cX4_apart 118 = .ok (.isub, 1) := by decide +kernel
theorem dX4_apart_119 : decode cX4_apart 119 = .ok (.iastore, 1) := by decide +kernel
theorem dX4_apart_120 : decode cX4_apart 120 = .ok (.areturn, 1) := by decide +kernel
theorem dX4_dateTold_0 : decode cX4_dateTold 0 = .ok (.aload_n 0, 1) := by decide +kernel
theorem dX4_dateTold_1 : decode cX4_dateTold 1 = .ok (.ifnonnull 8, 3) := by decide +kernel
theorem dX4_dateTold_4 : decode cX4_dateTold 4 = .ok (.ldc 61, 2) := by decide +kernel
theorem dX4_dateTold_6 : decode cX4_dateTold 6 = .ok (.goto 41, 3) := by decide +kernel
theorem dX4_dateTold_9 : decode cX4_dateTold 9 = .ok (.new 63, 3) := by decide +kernel
theorem dX4_dateTold_12 : decode cX4_dateTold 12 = .ok (.dup, 1) := by decide +kernel
theorem dX4_dateTold_13 : decode cX4_dateTold 13 = .ok (.invokespecial 65, 3) := by decide +kernel
theorem dX4_dateTold_16 : decode cX4_dateTold 16 = .ok (.aload_n 0, 1) := by decide +kernel
theorem dX4_dateTold_17 : decode cX4_dateTold 17 = .ok (.iconst 0, 1) := by decide +kernel
theorem dX4_dateTold_18 : decode cX4_dateTold 18 = .ok (.iaload, 1) := by decide +kernel
theorem dX4_dateTold_19 : decode cX4_dateTold 19 = .ok (.invokevirtual 66, 3) := by decide +kernel
theorem dX4_dateTold_22 : decode cX4_dateTold 22 = .ok (.ldc 206, 2) := by decide +kernel
theorem dX4_dateTold_24 : decode cX4_dateTold 24 = .ok (.invokevirtual 72, 3) := by decide +kernel
theorem dX4_dateTold_27 : decode cX4_dateTold 27 = .ok (.aload_n 0, 1) := by decide +kernel
theorem dX4_dateTold_28 : decode cX4_dateTold 28 = .ok (.iconst 1, 1) := by decide +kernel
theorem dX4_dateTold_29 : decode cX4_dateTold 29 = .ok (.iaload, 1) := by decide +kernel
theorem dX4_dateTold_30 : decode cX4_dateTold 30 = .ok (.invokevirtual 66, 3) := by decide +kernel
theorem dX4_dateTold_33 : decode cX4_dateTold 33 = .ok (.ldc 206, 2) := by decide +kernel
theorem dX4_dateTold_35 : decode cX4_dateTold 35 = .ok (.invokevirtual 72, 3) := by decide +kernel
theorem dX4_dateTold_38 : decode cX4_dateTold 38 = .ok (.aload_n 0, 1) := by decide +kernel
theorem dX4_dateTold_39 : decode cX4_dateTold 39 = .ok (.iconst 2, 1) := by decide +kernel
theorem dX4_dateTold_40 : decode cX4_dateTold 40 = .ok (.iaload, 1) := by decide +kernel
theorem dX4_dateTold_41 : decode cX4_dateTold 41 = .ok (.invokevirtual 66, 3) := by decide +kernel
theorem dX4_dateTold_44 : decode cX4_dateTold 44 = .ok (.invokevirtual 79, 3) := by decide +kernel
theorem dX4_dateTold_47 : decode cX4_dateTold 47 = .ok (.areturn, 1) := by decide +kernel
theorem dX4_become_0 : decode cX4_become 0 = .ok (.aload_n 2, 1) := by decide +kernel
theorem dX4_become_1 : decode cX4_become 1 = .ok (.ifnonnull 8, 3) := by decide +kernel
theorem dX4_become_4 : decode cX4_become 4 = .ok (.aload_n 0, 1) := by decide +kernel
theorem dX4_become_5 : decode cX4_become 5 = .ok (.invokevirtual 83, 3) := by decide +kernel
theorem dX4_become_8 : decode cX4_become 8 = .ok (.ireturn, 1) := by decide +kernel
theorem dX4_become_9 : decode cX4_become 9 = .ok (.aload_n 0, 1) := by decide +kernel
theorem dX4_become_10 : decode cX4_become 10 = .ok (.getfield 23, 3) := by decide +kernel
theorem dX4_become_13 : decode cX4_become 13 = .ok (.iload_n 1, 1) := by decide +kernel
theorem dX4_become_14 : decode cX4_become 14 = .ok (.aaload, 1) := by decide +kernel
theorem dX4_become_15 : decode cX4_become 15 = .ok (.invokestatic 198, 3) := by decide +kernel
theorem dX4_become_18 : decode cX4_become 18 = .ok (.aload_n 2, 1) := by decide +kernel
theorem dX4_become_19 : decode cX4_become 19 = .ok (.invokestatic 198, 3) := by decide +kernel
theorem dX4_become_22 : decode cX4_become 22 = .ok (.if_icmp .eq 7, 3) := by decide +kernel
theorem dX4_become_25 : decode cX4_become 25 = .ok (.iconst 1, 1) := by decide +kernel
theorem dX4_become_26 : decode cX4_become 26 = .ok (.goto 4, 3) := by decide +kernel
theorem dX4_become_29 : decode cX4_become 29 = .ok (.iconst 0, 1) := by decide +kernel
theorem dX4_become_30 : decode cX4_become 30 = .ok (.invokestatic 91, 3) := by decide +kernel
theorem dX4_become_33 : decode cX4_become 33 = .ok (.istore_n 3, 1) := by decide +kernel
theorem dX4_become_34 : decode cX4_become 34 = .ok (.aload_n 0, 1) := by decide +kernel
theorem dX4_become_35 : decode cX4_become 35 = .ok (.getfield 23, 3) := by decide +kernel
theorem dX4_become_38 : decode cX4_become 38 = .ok (.iload_n 1, 1) := by decide +kernel
theorem dX4_become_39 : decode cX4_become 39 = .ok (.iconst 3, 1) := by decide +kernel
theorem dX4_become_40 : decode cX4_become 40 = .ok (.newarray .int, 2) := by decide +kernel
theorem dX4_become_42 : decode cX4_become 42 = .ok (.dup, 1) := by decide +kernel
theorem dX4_become_43 : decode cX4_become 43 = .ok (.iconst 0, 1) := by decide +kernel
theorem dX4_become_44 : decode cX4_become 44 = .ok (.aload_n 2, 1) := by decide +kernel
theorem dX4_become_45 : decode cX4_become 45 = .ok (.iconst 0, 1) := by decide +kernel
theorem dX4_become_46 : decode cX4_become 46 = .ok (.iaload, 1) := by decide +kernel
theorem dX4_become_47 : decode cX4_become 47 = .ok (.iastore, 1) := by decide +kernel
theorem dX4_become_48 : decode cX4_become 48 = .ok (.dup, 1) := by decide +kernel
theorem dX4_become_49 : decode cX4_become 49 = .ok (.iconst 1, 1) := by decide +kernel
theorem dX4_become_50 : decode cX4_become 50 = .ok (.aload_n 2, 1) := by decide +kernel
theorem dX4_become_51 : decode cX4_become 51 = .ok (.iconst 1, 1) := by decide +kernel
theorem dX4_become_52 : decode cX4_become 52 = .ok (.iaload, 1) := by decide +kernel
theorem dX4_become_53 : decode cX4_become 53 = .ok (.iastore, 1) := by decide +kernel
theorem dX4_become_54 : decode cX4_become 54 = .ok (.dup, 1) := by decide +kernel
theorem dX4_become_55 : decode cX4_become 55 = .ok (.iconst 2, 1) := by decide +kernel
theorem dX4_become_56 : decode cX4_become 56 = .ok (.aload_n 2, 1) := by decide +kernel
theorem dX4_become_57 : decode cX4_become 57 = .ok (.iconst 2, 1) := by decide +kernel
theorem dX4_become_58 : decode cX4_become 58 = .ok (.iaload, 1) := by decide +kernel
theorem dX4_become_59 : decode cX4_become 59 = .ok (.iastore, 1) := by decide +kernel
theorem dX4_become_60 : decode cX4_become 60 = .ok (.aastore, 1) := by decide +kernel
theorem dX4_become_61 : decode cX4_become 61 = .ok (.iload_n 3, 1) := by decide +kernel
theorem dX4_become_62 : decode cX4_become 62 = .ok (.ireturn, 1) := by decide +kernel
theorem dX4_date_0 : decode cX4_date 0 = .ok (.iload_n 2, 1) := by decide +kernel
theorem dX4_date_1 : decode cX4_date 1 = .ok (.i2l, 1) := by decide +kernel
theorem dX4_date_2 : decode cX4_date 2 = .ok (.ldc2_w 208, 3) := by decide +kernel
theorem dX4_date_5 : decode cX4_date 5 = .ok (.ldc2_w 210, 3) := by decide +kernel
theorem dX4_date_8 : decode cX4_date 8 = .ok (.invokestatic 37, 3) := by decide +kernel
theorem dX4_date_11 : decode cX4_date 11 = .ok (.ifCond .eq 31, 3) := by decide +kernel
theorem dX4_date_14 : decode cX4_date 14 = .ok (.iload_n 3, 1) := by decide +kernel
theorem dX4_date_15 : decode cX4_date 15 = .ok (.i2l, 1) := by decide +kernel
theorem dX4_date_16 : decode cX4_date 16 = .ok (.lconst 1, 1) := by decide +kernel
theorem dX4_date_17 : decode cX4_date 17 = .ok (.ldc2_w 41, 3) := by decide +kernel
theorem dX4_date_20 : decode cX4_date 20 = .ok (.invokestatic 37, 3) := by decide +kernel
theorem dX4_date_23 : decode cX4_date 23 = .ok (.ifCond .eq 19, 3) := by decide +kernel
theorem dX4_date_26 : decode cX4_date 26 = .ok (.iload 4, 2) := by decide +kernel
theorem dX4_date_28 : decode cX4_date 28 = .ok (.i2l, 1) := by decide +kernel
theorem dX4_date_29 : decode cX4_date 29 = .ok (.lconst 1, 1) := by decide +kernel
theorem dX4_date_30 : decode cX4_date 30 = .ok (.iload_n 2, 1) := by decide +kernel
theorem dX4_date_31 : decode cX4_date 31 = .ok (.iload_n 3, 1) := by decide +kernel
theorem dX4_date_32 : decode cX4_date 32 = .ok (.invokestatic 181, 3) := by decide +kernel
theorem dX4_date_35 : decode cX4_date 35 = .ok (.i2l, 1) := by decide +kernel
theorem dX4_date_36 : decode cX4_date 36 = .ok (.invokestatic 37, 3) := by decide +kernel
theorem dX4_date_39 : decode cX4_date 39 = .ok (.ifCond .ne 7, 3) := by decide +kernel
theorem dX4_date_42 : decode cX4_date 42 = .ok (.iconst 1, 1) := by decide +kernel
theorem dX4_date_43 : decode cX4_date 43 = .ok (.goto 4, 3) := by decide +kernel
theorem dX4_date_46 : decode cX4_date 46 = .ok (.iconst 0, 1) := by decide +kernel
theorem dX4_date_47 : decode cX4_date 47 = .ok (.istore 5, 2) := by decide +kernel
theorem dX4_date_49 : decode cX4_date 49 = .ok (.aload_n 0, 1) := by decide +kernel
theorem dX4_date_50 : decode cX4_date 50 = .ok (.iload_n 1, 1) := by decide +kernel
theorem dX4_date_51 : decode cX4_date 51 = .ok (.invokestatic 95, 3) := by decide +kernel
theorem dX4_date_54 : decode cX4_date 54 = .ok (.iload 5, 2) := by decide +kernel
theorem dX4_date_56 : decode cX4_date 56 = .ok (.invokevirtual 99, 3) := by decide +kernel
theorem dX4_date_59 : decode cX4_date 59 = .ok (.ifCond .eq 7, 3) := by decide +kernel
theorem dX4_date_62 : decode cX4_date 62 = .ok (.iconst 0, 1) := by decide +kernel
theorem dX4_date_63 : decode cX4_date 63 = .ok (.goto 24, 3) := by decide +kernel
theorem dX4_date_66 : decode cX4_date 66 = .ok (.aload_n 0, 1) := by decide +kernel
theorem dX4_date_67 : decode cX4_date 67 = .ok (.iload_n 1, 1) := by decide +kernel
theorem dX4_date_68 : decode cX4_date 68 = .ok (.iconst 3, 1) := by decide +kernel
theorem dX4_date_69 : decode cX4_date 69 = .ok (.newarray .int, 2) := by decide +kernel
theorem dX4_date_71 : decode cX4_date 71 = .ok (.dup, 1) := by decide +kernel
theorem dX4_date_72 : decode cX4_date 72 = .ok (.iconst 0, 1) := by decide +kernel
theorem dX4_date_73 : decode cX4_date 73 = .ok (.iload_n 2, 1) := by decide +kernel
theorem dX4_date_74 : decode cX4_date 74 = .ok (.iastore, 1) := by decide +kernel
theorem dX4_date_75 : decode cX4_date 75 = .ok (.dup, 1) := by decide +kernel
theorem dX4_date_76 : decode cX4_date 76 = .ok (.iconst 1, 1) := by decide +kernel
theorem dX4_date_77 : decode cX4_date 77 = .ok (.iload_n 3, 1) := by decide +kernel
theorem dX4_date_78 : decode cX4_date 78 = .ok (.iastore, 1) := by decide +kernel
theorem dX4_date_79 : decode cX4_date 79 = .ok (.dup, 1) := by decide +kernel
theorem dX4_date_80 : decode cX4_date 80 = .ok (.iconst 2, 1) := by decide +kernel
theorem dX4_date_81 : decode cX4_date 81 = .ok (.iload 4, 2) := by decide +kernel
theorem dX4_date_83 : decode cX4_date 83 = .ok (.iastore, 1) := by decide +kernel
theorem dX4_date_84 : decode cX4_date 84 = .ok (.invokevirtual 212, 3) := by decide +kernel
theorem dX4_date_87 : decode cX4_date 87 = .ok (.ireturn, 1) := by decide +kernel
theorem dX4_copyDate_0 : decode cX4_copyDate 0 = .ok (.aload_n 0, 1) := by decide +kernel
theorem dX4_copyDate_1 : decode cX4_copyDate 1 = .ok (.iload_n 1, 1) := by decide +kernel
theorem dX4_copyDate_2 : decode cX4_copyDate 2 = .ok (.invokestatic 95, 3) := by decide +kernel
theorem dX4_copyDate_5 : decode cX4_copyDate 5 = .ok (.ifCond .ne 10, 3) := by decide +kernel
theorem dX4_copyDate_8 : decode cX4_copyDate 8 = .ok (.iload_n 2, 1) := by decide +kernel
theorem dX4_copyDate_9 : decode cX4_copyDate 9 = .ok (.invokestatic 95, 3) := by decide +kernel
theorem dX4_copyDate_12 : decode cX4_copyDate 12 = .ok (.ifCond .eq 7, 3) := by decide +kernel
theorem dX4_copyDate_15 : decode cX4_copyDate 15 = .ok (.iconst 1, 1) := by decide +kernel
theorem dX4_copyDate_16 : decode cX4_copyDate 16 = .ok (.goto 4, 3) := by decide +kernel
theorem dX4_copyDate_19 : decode cX4_copyDate 19 = .ok (.iconst 0, 1) := by decide +kernel
theorem dX4_copyDate_20 : decode cX4_copyDate 20 = .ok (.iconst 0, 1) := by decide +kernel
theorem dX4_copyDate_21 : decode cX4_copyDate 21 = .ok (.invokevirtual 99, 3) := by decide +kernel
theorem dX4_copyDate_24 : decode cX4_copyDate 24 = .ok (.ifCond .eq 7, 3) := by decide +kernel
theorem dX4_copyDate_27 : decode cX4_copyDate 27 = .ok (.iconst 0, 1) := by decide +kernel
theorem dX4_copyDate_28 : decode cX4_copyDate 28 = .ok (.goto 14, 3) := by decide +kernel
theorem dX4_copyDate_31 : decode cX4_copyDate 31 = .ok (.aload_n 0, 1) := by decide +kernel
theorem dX4_copyDate_32 : decode cX4_copyDate 32 = .ok (.iload_n 1, 1) := by decide +kernel
theorem dX4_copyDate_33 : decode cX4_copyDate 33 = .ok (.aload_n 0, 1) := by decide +kernel
theorem dX4_copyDate_34 : decode cX4_copyDate 34 = .ok (.getfield 23, 3) := by decide +kernel
theorem dX4_copyDate_37 : decode cX4_copyDate 37 = .ok (.iload_n 2, 1) := by decide +kernel
theorem dX4_copyDate_38 : decode cX4_copyDate 38 = .ok (.aaload, 1) := by decide +kernel
theorem dX4_copyDate_39 : decode cX4_copyDate 39 = .ok (.invokevirtual 212, 3) := by decide +kernel
theorem dX4_copyDate_42 : decode cX4_copyDate 42 = .ok (.ireturn, 1) := by decide +kernel
theorem dX4_move_0 : decode cX4_move 0 = .ok (.aload_n 0, 1) := by decide +kernel
theorem dX4_move_1 : decode cX4_move 1 = .ok (.iload_n 1, 1) := by decide +kernel
theorem dX4_move_2 : decode cX4_move 2 = .ok (.invokestatic 95, 3) := by decide +kernel
theorem dX4_move_5 : decode cX4_move 5 = .ok (.ifCond .ne 10, 3) := by decide +kernel
theorem dX4_move_8 : decode cX4_move 8 = .ok (.iload_n 2, 1) := by decide +kernel
theorem dX4_move_9 : decode cX4_move 9 = .ok (.invokestatic 95, 3) := by decide +kernel
theorem dX4_move_12 : decode cX4_move 12 = .ok (.ifCond .eq 7, 3) := by decide +kernel
theorem dX4_move_15 : decode cX4_move 15 = .ok (.iconst 1, 1) := by decide +kernel
theorem dX4_move_16 : decode cX4_move 16 = .ok (.goto 4, 3) := by decide +kernel
theorem dX4_move_19 : decode cX4_move 19 = .ok (.iconst 0, 1) := by decide +kernel
theorem dX4_move_20 : decode cX4_move 20 = .ok (.iconst 0, 1) := by decide +kernel
theorem dX4_move_21 : decode cX4_move 21 = .ok (.invokevirtual 99, 3) := by decide +kernel
theorem dX4_move_24 : decode cX4_move 24 = .ok (.ifCond .eq 7, 3) := by decide +kernel
theorem dX4_move_27 : decode cX4_move 27 = .ok (.iconst 0, 1) := by decide +kernel
theorem dX4_move_28 : decode cX4_move 28 = .ok (.goto 24, 3) := by decide +kernel
theorem dX4_move_31 : decode cX4_move 31 = .ok (.aload_n 0, 1) := by decide +kernel
theorem dX4_move_32 : decode cX4_move 32 = .ok (.iload_n 1, 1) := by decide +kernel
theorem dX4_move_33 : decode cX4_move 33 = .ok (.aload_n 0, 1) := by decide +kernel
theorem dX4_move_34 : decode cX4_move 34 = .ok (.getfield 23, 3) := by decide +kernel
theorem dX4_move_37 : decode cX4_move 37 = .ok (.iload_n 1, 1) := by decide +kernel
theorem dX4_move_38 : decode cX4_move 38 = .ok (.aaload, 1) := by decide +kernel
theorem dX4_move_39 : decode cX4_move 39 = .ok (.aload_n 0, 1) := by decide +kernel
theorem dX4_move_40 : decode cX4_move 40 = .ok (.getfield 11, 3) := by decide +kernel
theorem dX4_move_43 : decode cX4_move 43 = .ok (.iload_n 2, 1) := by decide +kernel
theorem dX4_move_44 : decode cX4_move 44 = .ok (.aaload, 1) := by decide +kernel
theorem dX4_move_45 : decode cX4_move 45 = .ok (.iconst 1, 1) := by decide +kernel
theorem dX4_move_46 : decode cX4_move 46 = .ok (.invokestatic 215, 3) := by decide +kernel
theorem dX4_move_49 : decode cX4_move 49 = .ok (.invokevirtual 212, 3) := by decide +kernel
theorem dX4_move_52 : decode cX4_move 52 = .ok (.ireturn, 1) := by decide +kernel
theorem dX4_back_0 : decode cX4_back 0 = .ok (.aload_n 0, 1) := by decide +kernel
theorem dX4_back_1 : decode cX4_back 1 = .ok (.iload_n 1, 1) := by decide +kernel
theorem dX4_back_2 : decode cX4_back 2 = .ok (.invokestatic 95, 3) := by decide +kernel
theorem dX4_back_5 : decode cX4_back 5 = .ok (.ifCond .ne 10, 3) := by decide +kernel
theorem dX4_back_8 : decode cX4_back 8 = .ok (.iload_n 2, 1) := by decide +kernel
theorem dX4_back_9 : decode cX4_back 9 = .ok (.invokestatic 95, 3) := by decide +kernel
theorem dX4_back_12 : decode cX4_back 12 = .ok (.ifCond .eq 7, 3) := by decide +kernel
theorem dX4_back_15 : decode cX4_back 15 = .ok (.iconst 1, 1) := by decide +kernel
theorem dX4_back_16 : decode cX4_back 16 = .ok (.goto 4, 3) := by decide +kernel
theorem dX4_back_19 : decode cX4_back 19 = .ok (.iconst 0, 1) := by decide +kernel
theorem dX4_back_20 : decode cX4_back 20 = .ok (.iconst 0, 1) := by decide +kernel
theorem dX4_back_21 : decode cX4_back 21 = .ok (.invokevirtual 99, 3) := by decide +kernel
theorem dX4_back_24 : decode cX4_back 24 = .ok (.ifCond .eq 7, 3) := by decide +kernel
theorem dX4_back_27 : decode cX4_back 27 = .ok (.iconst 0, 1) := by decide +kernel
theorem dX4_back_28 : decode cX4_back 28 = .ok (.goto 24, 3) := by decide +kernel
theorem dX4_back_31 : decode cX4_back 31 = .ok (.aload_n 0, 1) := by decide +kernel
theorem dX4_back_32 : decode cX4_back 32 = .ok (.iload_n 1, 1) := by decide +kernel
theorem dX4_back_33 : decode cX4_back 33 = .ok (.aload_n 0, 1) := by decide +kernel
theorem dX4_back_34 : decode cX4_back 34 = .ok (.getfield 23, 3) := by decide +kernel
theorem dX4_back_37 : decode cX4_back 37 = .ok (.iload_n 1, 1) := by decide +kernel
theorem dX4_back_38 : decode cX4_back 38 = .ok (.aaload, 1) := by decide +kernel
theorem dX4_back_39 : decode cX4_back 39 = .ok (.aload_n 0, 1) := by decide +kernel
theorem dX4_back_40 : decode cX4_back 40 = .ok (.getfield 11, 3) := by decide +kernel
theorem dX4_back_43 : decode cX4_back 43 = .ok (.iload_n 2, 1) := by decide +kernel
theorem dX4_back_44 : decode cX4_back 44 = .ok (.aaload, 1) := by decide +kernel
theorem dX4_back_45 : decode cX4_back 45 = .ok (.iconst (-1), 1) := by decide +kernel
theorem dX4_back_46 : decode cX4_back 46 = .ok (.invokestatic 215, 3) := by decide +kernel
theorem dX4_back_49 : decode cX4_back 49 = .ok (.invokevirtual 212, 3) := by decide +kernel
theorem dX4_back_52 : decode cX4_back 52 = .ok (.ireturn, 1) := by decide +kernel
theorem dX4_walk_0 : decode cX4_walk 0 = .ok (.aload_n 0, 1) := by decide +kernel
theorem dX4_walk_1 : decode cX4_walk 1 = .ok (.iload_n 1, 1) := by decide +kernel
theorem dX4_walk_2 : decode cX4_walk 2 = .ok (.invokestatic 95, 3) := by decide +kernel
theorem dX4_walk_5 : decode cX4_walk 5 = .ok (.ifCond .ne 10, 3) := by decide +kernel
theorem dX4_walk_8 : decode cX4_walk 8 = .ok (.iload_n 2, 1) := by decide +kernel
theorem dX4_walk_9 : decode cX4_walk 9 = .ok (.invokestatic 95, 3) := by decide +kernel
theorem dX4_walk_12 : decode cX4_walk 12 = .ok (.ifCond .eq 7, 3) := by decide +kernel
theorem dX4_walk_15 : decode cX4_walk 15 = .ok (.iconst 1, 1) := by decide +kernel
theorem dX4_walk_16 : decode cX4_walk 16 = .ok (.goto 4, 3) := by decide +kernel
theorem dX4_walk_19 : decode cX4_walk 19 = .ok (.iconst 0, 1) := by decide +kernel
theorem dX4_walk_20 : decode cX4_walk 20 = .ok (.iload_n 3, 1) := by decide +kernel
theorem dX4_walk_21 : decode cX4_walk 21 = .ok (.i2l, 1) := by decide +kernel
theorem dX4_walk_22 : decode cX4_walk 22 = .ok (.lconst 1, 1) := by decide +kernel
theorem dX4_walk_23 : decode cX4_walk 23 = .ok (.ldc2_w 41, 3) := by decide +kernel
theorem dX4_walk_26 : decode cX4_walk 26 = .ok (.invokestatic 37, 3) := by decide +kernel
theorem dX4_walk_29 : decode cX4_walk 29 = .ok (.ifCond .ne 7, 3) := by decide +kernel
theorem dX4_walk_32 : decode cX4_walk 32 = .ok (.iconst 1, 1) := by decide +kernel
theorem dX4_walk_33 : decode cX4_walk 33 = .ok (.goto 4, 3) := by decide +kernel
theorem dX4_walk_36 : decode cX4_walk 36 = .ok (.iconst 0, 1) := by decide +kernel
theorem dX4_walk_37 : decode cX4_walk 37 = .ok (.invokevirtual 99, 3) := by decide +kernel
theorem dX4_walk_40 : decode cX4_walk 40 = .ok (.ifCond .eq 5, 3) := by decide +kernel
theorem dX4_walk_43 : decode cX4_walk 43 = .ok (.iconst 0, 1) := by decide +kernel
theorem dX4_walk_44 : decode cX4_walk 44 = .ok (.ireturn, 1) := by decide +kernel
theorem dX4_walk_45 : decode cX4_walk 45 = .ok (.iconst 0, 1) := by decide +kernel
theorem dX4_walk_46 : decode cX4_walk 46 = .ok (.istore 4, 2) := by decide +kernel
theorem dX4_walk_48 : decode cX4_walk 48 = .ok (.iload 4, 2) := by decide +kernel
theorem dX4_walk_50 : decode cX4_walk 50 = .ok (.iload_n 3, 1) := by decide +kernel
theorem dX4_walk_51 : decode cX4_walk 51 = .ok (.if_icmp .ge 50, 3) := by decide +kernel
theorem dX4_walk_54 : decode cX4_walk 54 = .ok (.aload_n 0, 1) := by decide +kernel
theorem dX4_walk_55 : decode cX4_walk 55 = .ok (.getfield 23, 3) := by decide +kernel
theorem dX4_walk_58 : decode cX4_walk 58 = .ok (.iload_n 1, 1) := by decide +kernel
theorem dX4_walk_59 : decode cX4_walk 59 = .ok (.aaload, 1) := by decide +kernel
theorem dX4_walk_60 : decode cX4_walk 60 = .ok (.aload_n 0, 1) := by decide +kernel
theorem dX4_walk_61 : decode cX4_walk 61 = .ok (.getfield 11, 3) := by decide +kernel
theorem dX4_walk_64 : decode cX4_walk 64 = .ok (.iload_n 2, 1) := by decide +kernel
theorem dX4_walk_65 : decode cX4_walk 65 = .ok (.aaload, 1) := by decide +kernel
theorem dX4_walk_66 : decode cX4_walk 66 = .ok (.iconst 1, 1) := by decide +kernel
theorem dX4_walk_67 : decode cX4_walk 67 = .ok (.invokestatic 215, 3) := by decide +kernel
theorem dX4_walk_70 : decode cX4_walk 70 = .ok (.ifnull 31, 3) := by decide +kernel
theorem dX4_walk_73 : decode cX4_walk 73 = .ok (.aload_n 0, 1) := by decide +kernel
theorem dX4_walk_74 : decode cX4_walk 74 = .ok (.iload_n 1, 1) := by decide +kernel
theorem dX4_walk_75 : decode cX4_walk 75 = .ok (.aload_n 0, 1) := by decide +kernel
theorem dX4_walk_76 : decode cX4_walk 76 = .ok (.getfield 23, 3) := by decide +kernel
theorem dX4_walk_79 : decode cX4_walk 79 = .ok (.iload_n 1, 1) := by decide +kernel
theorem dX4_walk_80 : decode cX4_walk 80 = .ok (.aaload, 1) := by decide +kernel
theorem dX4_walk_81 : decode cX4_walk 81 = .ok (.aload_n 0, 1) := by decide +kernel
theorem dX4_walk_82 : decode cX4_walk 82 = .ok (.getfield 11, 3) := by decide +kernel
theorem dX4_walk_85 : decode cX4_walk 85 = .ok (.iload_n 2, 1) := by decide +kernel
theorem dX4_walk_86 : decode cX4_walk 86 = .ok (.aaload, 1) := by decide +kernel
theorem dX4_walk_87 : decode cX4_walk 87 = .ok (.iconst 1, 1) := by decide +kernel
theorem dX4_walk_88 : decode cX4_walk 88 = .ok (.invokestatic 215, 3) := by decide +kernel
theorem dX4_walk_91 : decode cX4_walk 91 = .ok (.invokevirtual 212, 3) := by decide +kernel
theorem dX4_walk_94 : decode cX4_walk 94 = .ok (.pop, 1) := by decide +kernel
theorem dX4_walk_95 : decode cX4_walk 95 = .ok (.iinc 4 1, 3) := by decide +kernel
theorem dX4_walk_98 : decode cX4_walk 98 = .ok (.goto (-50), 3) := by decide +kernel
theorem dX4_walk_101 : decode cX4_walk 101 = .ok (.iload 4, 2) := by decide +kernel
theorem dX4_walk_103 : decode cX4_walk 103 = .ok (.ireturn, 1) := by decide +kernel
theorem dX4_between_0 : decode cX4_between 0 = .ok (.aload_n 0, 1) := by decide +kernel
theorem dX4_between_1 : decode cX4_between 1 = .ok (.iload_n 1, 1) := by decide +kernel
theorem dX4_between_2 : decode cX4_between 2 = .ok (.invokestatic 95, 3) := by decide +kernel
theorem dX4_between_5 : decode cX4_between 5 = .ok (.ifCond .ne 17, 3) := by decide +kernel
theorem dX4_between_8 : decode cX4_between 8 = .ok (.iload_n 2, 1) := by decide +kernel
theorem dX4_between_9 : decode cX4_between 9 = .ok (.invokestatic 95, 3) := by decide +kernel
theorem dX4_between_12 : decode cX4_between 12 = .ok (.ifCond .ne 10, 3) := by decide +kernel
theorem dX4_between_15 : decode cX4_between 15 = .ok (.iload_n 3, 1) := by decide +kernel
theorem dX4_between_16 : decode cX4_between 16 = .ok (.invokestatic 95, 3) := by decide +kernel
theorem dX4_between_19 : decode cX4_between 19 = .ok (.ifCond .eq 7, 3) := by decide +kernel
theorem dX4_between_22 : decode cX4_between 22 = .ok (.iconst 1, 1) := by decide +kernel
theorem dX4_between_23 : decode cX4_between 23 = .ok (.goto 4, 3) := by decide +kernel
theorem dX4_between_26 : decode cX4_between 26 = .ok (.iconst 0, 1) := by decide +kernel
theorem dX4_between_27 : decode cX4_between 27 = .ok (.iconst 0, 1) := by decide +kernel
theorem dX4_between_28 : decode cX4_between 28 = .ok (.invokevirtual 99, 3) := by decide +kernel
theorem dX4_between_31 : decode cX4_between 31 = .ok (.ifCond .eq 7, 3) := by decide +kernel
theorem dX4_between_34 : decode cX4_between 34 = .ok (.iconst 0, 1) := by decide +kernel
theorem dX4_between_35 : decode cX4_between 35 = .ok (.goto 23, 3) := by decide +kernel
theorem dX4_between_38 : decode cX4_between 38 = .ok (.aload_n 0, 1) := by decide +kernel
theorem dX4_between_39 : decode cX4_between 39 = .ok (.iload_n 1, 1) := by decide +kernel
theorem dX4_between_40 : decode cX4_between 40 = .ok (.aload_n 0, 1) := by decide +kernel
theorem dX4_between_41 : decode cX4_between 41 = .ok (.getfield 23, 3) := by decide +kernel
theorem dX4_between_44 : decode cX4_between 44 = .ok (.iload_n 2, 1) := by decide +kernel
theorem dX4_between_45 : decode cX4_between 45 = .ok (.aaload, 1) := by decide +kernel
theorem dX4_between_46 : decode cX4_between 46 = .ok (.aload_n 0, 1) := by decide +kernel
theorem dX4_between_47 : decode cX4_between 47 = .ok (.getfield 23, 3) := by decide +kernel
theorem dX4_between_50 : decode cX4_between 50 = .ok (.iload_n 3, 1) := by decide +kernel
theorem dX4_between_51 : decode cX4_between 51 = .ok (.aaload, 1) := by decide +kernel
theorem dX4_between_52 : decode cX4_between 52 = .ok (.invokestatic 219, 3) := by decide +kernel
theorem dX4_between_55 : decode cX4_between 55 = .ok (.invokevirtual 103, 3) := by decide +kernel
theorem dX4_between_58 : decode cX4_between 58 = .ok (.ireturn, 1) := by decide +kernel
theorem dX4_until_0 : decode cX4_until 0 = .ok (.aload_n 0, 1) := by decide +kernel
theorem dX4_until_1 : decode cX4_until 1 = .ok (.iload_n 1, 1) := by decide +kernel
theorem dX4_until_2 : decode cX4_until 2 = .ok (.iload_n 2, 1) := by decide +kernel
theorem dX4_until_3 : decode cX4_until 3 = .ok (.iload_n 3, 1) := by decide +kernel
theorem dX4_until_4 : decode cX4_until 4 = .ok (.invokevirtual 223, 3) := by decide +kernel
theorem dX4_until_7 : decode cX4_until 7 = .ok (.ireturn, 1) := by decide +kernel
theorem dX4_ofDateNow_0 : decode cX4_ofDateNow 0 = .ok (.iload_n 2, 1) := by decide +kernel
theorem dX4_ofDateNow_1 : decode cX4_ofDateNow 1 = .ok (.iconst 3, 1) := by decide +kernel
theorem dX4_ofDateNow_2 : decode cX4_ofDateNow 2 = .ok (.if_icmp .ne 15, 3) := by decide +kernel
theorem dX4_ofDateNow_5 : decode cX4_ofDateNow 5 = .ok (.aload_n 0, 1) := by decide +kernel
theorem dX4_ofDateNow_6 : decode cX4_ofDateNow 6 = .ok (.getfield 23, 3) := by decide +kernel
theorem dX4_ofDateNow_9 : decode cX4_ofDateNow 9 = .ok (.iload_n 1, 1) := by decide +kernel
theorem dX4_ofDateNow_10 : decode cX4_ofDateNow 10 = .ok (.aaload, 1) := by decide +kernel
theorem dX4_ofDateNow_11 : decode cX4_ofDateNow 11 = .ok (.invokestatic 198, 3) := by decide +kernel
theorem dX4_ofDateNow_14 : decode cX4_ofDateNow 14 = .ok (.goto 11, 3) := by decide +kernel
theorem dX4_ofDateNow_17 : decode cX4_ofDateNow 17 = .ok (.aload_n 0, 1) := by decide +kernel
theorem dX4_ofDateNow_18 : decode cX4_ofDateNow 18 = .ok (.getfield 23, 3) := by decide +kernel
theorem dX4_ofDateNow_21 : decode cX4_ofDateNow 21 = .ok (.iload_n 1, 1) := by decide +kernel
theorem dX4_ofDateNow_22 : decode cX4_ofDateNow 22 = .ok (.aaload, 1) := by decide +kernel
theorem dX4_ofDateNow_23 : decode cX4_ofDateNow 23 = .ok (.iload_n 2, 1) := by decide +kernel
theorem dX4_ofDateNow_24 : decode cX4_ofDateNow 24 = .ok (.iaload, 1) := by decide +kernel
theorem dX4_ofDateNow_25 : decode cX4_ofDateNow 25 = .ok (.ireturn, 1) := by decide +kernel
theorem dX4_ofDate_0 : decode cX4_ofDate 0 = .ok (.aload_n 0, 1) := by decide +kernel
theorem dX4_ofDate_1 : decode cX4_ofDate 1 = .ok (.iload_n 1, 1) := by decide +kernel
theorem dX4_ofDate_2 : decode cX4_ofDate 2 = .ok (.invokestatic 95, 3) := by decide +kernel
theorem dX4_ofDate_5 : decode cX4_ofDate 5 = .ok (.iload_n 2, 1) := by decide +kernel
theorem dX4_ofDate_6 : decode cX4_ofDate 6 = .ok (.i2l, 1) := by decide +kernel
theorem dX4_ofDate_7 : decode cX4_ofDate 7 = .ok (.lconst 0, 1) := by decide +kernel
theorem dX4_ofDate_8 : decode cX4_ofDate 8 = .ok (.ldc2_w 227, 3) := by decide +kernel
theorem dX4_ofDate_11 : decode cX4_ofDate 11 = .ok (.invokestatic 37, 3) := by decide +kernel
theorem dX4_ofDate_14 : decode cX4_ofDate 14 = .ok (.ifCond .ne 7, 3) := by decide +kernel
theorem dX4_ofDate_17 : decode cX4_ofDate 17 = .ok (.iconst 1, 1) := by decide +kernel
theorem dX4_ofDate_18 : decode cX4_ofDate 18 = .ok (.goto 4, 3) := by decide +kernel
theorem dX4_ofDate_21 : decode cX4_ofDate 21 = .ok (.iconst 0, 1) := by decide +kernel
theorem dX4_ofDate_22 : decode cX4_ofDate 22 = .ok (.invokevirtual 99, 3) := by decide +kernel
theorem dX4_ofDate_25 : decode cX4_ofDate 25 = .ok (.ifCond .eq 7, 3) := by decide +kernel
theorem dX4_ofDate_28 : decode cX4_ofDate 28 = .ok (.iconst 0, 1) := by decide +kernel
theorem dX4_ofDate_29 : decode cX4_ofDate 29 = .ok (.goto 9, 3) := by decide +kernel
theorem dX4_ofDate_32 : decode cX4_ofDate 32 = .ok (.aload_n 0, 1) := by decide +kernel
theorem dX4_ofDate_33 : decode cX4_ofDate 33 = .ok (.iload_n 1, 1) := by decide +kernel
theorem dX4_ofDate_34 : decode cX4_ofDate 34 = .ok (.iload_n 2, 1) := by decide +kernel
theorem dX4_ofDate_35 : decode cX4_ofDate 35 = .ok (.invokevirtual 229, 3) := by decide +kernel
theorem dX4_ofDate_38 : decode cX4_ofDate 38 = .ok (.ireturn, 1) := by decide +kernel
theorem dX4_dateText_0 : decode cX4_dateText 0 = .ok (.aload_n 0, 1) := by decide +kernel
theorem dX4_dateText_1 : decode cX4_dateText 1 = .ok (.iload_n 1, 1) := by decide +kernel
theorem dX4_dateText_2 : decode cX4_dateText 2 = .ok (.invokestatic 95, 3) := by decide +kernel
theorem dX4_dateText_5 : decode cX4_dateText 5 = .ok (.iconst 0, 1) := by decide +kernel
theorem dX4_dateText_6 : decode cX4_dateText 6 = .ok (.invokevirtual 99, 3) := by decide +kernel
theorem dX4_dateText_9 : decode cX4_dateText 9 = .ok (.ifCond .eq 8, 3) := by decide +kernel
theorem dX4_dateText_12 : decode cX4_dateText 12 = .ok (.ldc 61, 2) := by decide +kernel
theorem dX4_dateText_14 : decode cX4_dateText 14 = .ok (.goto 12, 3) := by decide +kernel
theorem dX4_dateText_17 : decode cX4_dateText 17 = .ok (.aload_n 0, 1) := by decide +kernel
theorem dX4_dateText_18 : decode cX4_dateText 18 = .ok (.getfield 23, 3) := by decide +kernel
theorem dX4_dateText_21 : decode cX4_dateText 21 = .ok (.iload_n 1, 1) := by decide +kernel
theorem dX4_dateText_22 : decode cX4_dateText 22 = .ok (.aaload, 1) := by decide +kernel
theorem dX4_dateText_23 : decode cX4_dateText 23 = .ok (.invokestatic 232, 3) := by decide +kernel
theorem dX4_dateText_26 : decode cX4_dateText 26 = .ok (.areturn, 1) := by decide +kernel
theorem dX4_movedNow_0 : decode cX4_movedNow 0 = .ok (.aload_n 0, 1) := by decide +kernel
theorem dX4_movedNow_1 : decode cX4_movedNow 1 = .ok (.getfield 23, 3) := by decide +kernel
theorem dX4_movedNow_4 : decode cX4_movedNow 4 = .ok (.iload_n 1, 1) := by decide +kernel
theorem dX4_movedNow_5 : decode cX4_movedNow 5 = .ok (.aaload, 1) := by decide +kernel
theorem dX4_movedNow_6 : decode cX4_movedNow 6 = .ok (.aload_n 0, 1) := by decide +kernel
theorem dX4_movedNow_7 : decode cX4_movedNow 7 = .ok (.getfield 11, 3) := by decide +kernel
theorem dX4_movedNow_10 : decode cX4_movedNow 10 = .ok (.iload_n 2, 1) := by decide +kernel
theorem dX4_movedNow_11 : decode cX4_movedNow 11 = .ok (.aaload, 1) := by decide +kernel
theorem dX4_movedNow_12 : decode cX4_movedNow 12 = .ok (.iload_n 3, 1) := by decide +kernel
theorem dX4_movedNow_13 : decode cX4_movedNow 13 = .ok (.ifCond .eq 7, 3) := by decide +kernel
theorem dX4_movedNow_16 : decode cX4_movedNow 16 = .ok (.iconst (-1), 1) := by decide +kernel
theorem dX4_movedNow_17 : decode cX4_movedNow 17 = .ok (.goto 4, 3) := by decide +kernel
theorem dX4_movedNow_20 : decode cX4_movedNow 20 = .ok (.iconst 1, 1) := by decide +kernel
theorem dX4_movedNow_21 : decode cX4_movedNow 21 = .ok (.invokestatic 215, 3) := by decide +kernel
theorem dX4_movedNow_24 : decode cX4_movedNow 24 = .ok (.invokestatic 232, 3) := by decide +kernel
theorem dX4_movedNow_27 : decode cX4_movedNow 27 = .ok (.areturn, 1) := by decide +kernel
theorem dX4_moved_0 : decode cX4_moved 0 = .ok (.aload_n 0, 1) := by decide +kernel
theorem dX4_moved_1 : decode cX4_moved 1 = .ok (.iload_n 1, 1) := by decide +kernel
theorem dX4_moved_2 : decode cX4_moved 2 = .ok (.invokestatic 95, 3) := by decide +kernel
theorem dX4_moved_5 : decode cX4_moved 5 = .ok (.ifCond .ne 10, 3) := by decide +kernel
theorem dX4_moved_8 : decode cX4_moved 8 = .ok (.iload_n 2, 1) := by decide +kernel
theorem dX4_moved_9 : decode cX4_moved 9 = .ok (.invokestatic 95, 3) := by decide +kernel
theorem dX4_moved_12 : decode cX4_moved 12 = .ok (.ifCond .eq 7, 3) := by decide +kernel
theorem dX4_moved_15 : decode cX4_moved 15 = .ok (.iconst 1, 1) := by decide +kernel
theorem dX4_moved_16 : decode cX4_moved 16 = .ok (.goto 4, 3) := by decide +kernel
theorem dX4_moved_19 : decode cX4_moved 19 = .ok (.iconst 0, 1) := by decide +kernel
theorem dX4_moved_20 : decode cX4_moved 20 = .ok (.iconst 0, 1) := by decide +kernel
theorem dX4_moved_21 : decode cX4_moved 21 = .ok (.invokevirtual 99, 3) := by decide +kernel
theorem dX4_moved_24 : decode cX4_moved 24 = .ok (.ifCond .eq 8, 3) := by decide +kernel
theorem dX4_moved_27 : decode cX4_moved 27 = .ok (.ldc 61, 2) := by decide +kernel
theorem dX4_moved_29 : decode cX4_moved 29 = .ok (.goto 10, 3) := by decide +kernel
theorem dX4_moved_32 : decode cX4_moved 32 = .ok (.aload_n 0, 1) := by decide +kernel
theorem dX4_moved_33 : decode cX4_moved 33 = .ok (.iload_n 1, 1) := by decide +kernel
theorem dX4_moved_34 : decode cX4_moved 34 = .ok (.iload_n 2, 1) := by decide +kernel
theorem dX4_moved_35 : decode cX4_moved 35 = .ok (.iload_n 3, 1) := by decide +kernel
theorem dX4_moved_36 : decode cX4_moved 36 = .ok (.invokevirtual 235, 3) := by decide +kernel
theorem dX4_moved_39 : decode cX4_moved 39 = .ok (.areturn, 1) := by decide +kernel
theorem dX4_apart__0 : decode cX4_apart_ 0 = .ok (.aload_n 0, 1) := by decide +kernel
theorem dX4_apart__1 : decode cX4_apart_ 1 = .ok (.iload_n 1, 1) := by decide +kernel
theorem dX4_apart__2 : decode cX4_apart_ 2 = .ok (.invokestatic 95, 3) := by decide +kernel
theorem dX4_apart__5 : decode cX4_apart_ 5 = .ok (.ifCond .ne 10, 3) := by decide +kernel
theorem dX4_apart__8 : decode cX4_apart_ 8 = .ok (.iload_n 2, 1) := by decide +kernel
theorem dX4_apart__9 : decode cX4_apart_ 9 = .ok (.invokestatic 95, 3) := by decide +kernel
theorem dX4_apart__12 : decode cX4_apart_ 12 = .ok (.ifCond .eq 7, 3) := by decide +kernel
theorem dX4_apart__15 : decode cX4_apart_ 15 = .ok (.iconst 1, 1) := by decide +kernel
theorem dX4_apart__16 : decode cX4_apart_ 16 = .ok (.goto 4, 3) := by decide +kernel
theorem dX4_apart__19 : decode cX4_apart_ 19 = .ok (.iconst 0, 1) := by decide +kernel
theorem dX4_apart__20 : decode cX4_apart_ 20 = .ok (.iconst 0, 1) := by decide +kernel
theorem dX4_apart__21 : decode cX4_apart_ 21 = .ok (.invokevirtual 99, 3) := by decide +kernel
theorem dX4_apart__24 : decode cX4_apart_ 24 = .ok (.ifCond .eq 8, 3) := by decide +kernel
theorem dX4_apart__27 : decode cX4_apart_ 27 = .ok (.ldc 61, 2) := by decide +kernel
theorem dX4_apart__29 : decode cX4_apart_ 29 = .ok (.goto 21, 3) := by decide +kernel
theorem dX4_apart__32 : decode cX4_apart_ 32 = .ok (.aload_n 0, 1) := by decide +kernel
theorem dX4_apart__33 : decode cX4_apart_ 33 = .ok (.getfield 23, 3) := by decide +kernel
theorem dX4_apart__36 : decode cX4_apart_ 36 = .ok (.iload_n 1, 1) := by decide +kernel
theorem dX4_apart__37 : decode cX4_apart_ 37 = .ok (.aaload, 1) := by decide +kernel
theorem dX4_apart__38 : decode cX4_apart_ 38 = .ok (.aload_n 0, 1) := by decide +kernel
theorem dX4_apart__39 : decode cX4_apart_ 39 = .ok (.getfield 23, 3) := by decide +kernel
theorem dX4_apart__42 : decode cX4_apart_ 42 = .ok (.iload_n 2, 1) := by decide +kernel
theorem dX4_apart__43 : decode cX4_apart_ 43 = .ok (.aaload, 1) := by decide +kernel
theorem dX4_apart__44 : decode cX4_apart_ 44 = .ok (.invokestatic 219, 3) := by decide +kernel
theorem dX4_apart__47 : decode cX4_apart_ 47 = .ok (.invokestatic 145, 3) := by decide +kernel
theorem dX4_apart__50 : decode cX4_apart_ 50 = .ok (.areturn, 1) := by decide +kernel
theorem dX4_leadsBack_0 : decode cX4_leadsBack 0 = .ok (.aload_n 0, 1) := by decide +kernel
theorem dX4_leadsBack_1 : decode cX4_leadsBack 1 = .ok (.getfield 23, 3) := by decide +kernel
theorem dX4_leadsBack_4 : decode cX4_leadsBack 4 = .ok (.iload_n 1, 1) := by decide +kernel
theorem dX4_leadsBack_5 : decode cX4_leadsBack 5 = .ok (.aaload, 1) := by decide +kernel
theorem dX4_leadsBack_6 : decode cX4_leadsBack 6 = .ok (.aload_n 0, 1) := by decide +kernel
theorem dX4_leadsBack_7 : decode cX4_leadsBack 7 = .ok (.getfield 23, 3) := by decide +kernel
theorem dX4_leadsBack_10 : decode cX4_leadsBack 10 = .ok (.iload_n 2, 1) := by decide +kernel
theorem dX4_leadsBack_11 : decode cX4_leadsBack 11 = .ok (.aaload, 1) := by decide +kernel
theorem dX4_leadsBack_12 : decode cX4_leadsBack 12 = .ok (.invokestatic 219, 3) := by decide +kernel
theorem dX4_leadsBack_15 : decode cX4_leadsBack 15 = .ok (.astore_n 3, 1) := by decide +kernel
theorem dX4_leadsBack_16 : decode cX4_leadsBack 16 = .ok (.aload_n 3, 1) := by decide +kernel
theorem dX4_leadsBack_17 : decode cX4_leadsBack 17 = .ok (.ifnonnull 5, 3) := by decide +kernel
theorem dX4_leadsBack_20 : decode cX4_leadsBack 20 = .ok (.iconst 0, 1) := by decide +kernel
theorem dX4_leadsBack_21 : decode cX4_leadsBack 21 = .ok (.ireturn, 1) := by decide +kernel
theorem dX4_leadsBack_22 : decode cX4_leadsBack 22 = .ok (.aload_n 0, 1) := by decide +kernel
theorem dX4_leadsBack_23 : decode cX4_leadsBack 23 = .ok (.getfield 23, 3) := by decide +kernel
theorem dX4_leadsBack_26 : decode cX4_leadsBack 26 = .ok (.iload_n 1, 1) := by decide +kernel
theorem dX4_leadsBack_27 : decode cX4_leadsBack 27 = .ok (.aaload, 1) := by decide +kernel
theorem dX4_leadsBack_28 : decode cX4_leadsBack 28 = .ok (.aload_n 3, 1) := by decide +kernel
theorem dX4_leadsBack_29 : decode cX4_leadsBack 29 = .ok (.iconst 1, 1) := by decide +kernel
theorem dX4_leadsBack_30 : decode cX4_leadsBack 30 = .ok (.invokestatic 215, 3) := by decide +kernel
theorem dX4_leadsBack_33 : decode cX4_leadsBack 33 = .ok (.astore 4, 2) := by decide +kernel
theorem dX4_leadsBack_35 : decode cX4_leadsBack 35 = .ok (.aload 4, 2) := by decide +kernel
theorem dX4_leadsBack_37 : decode cX4_leadsBack 37 = .ok (.ifnull 24, 3) := by decide +kernel
theorem dX4_leadsBack_40 : decode cX4_leadsBack 40 = .ok (.aload 4, 2) := by decide +kernel
theorem dX4_leadsBack_42 : decode cX4_leadsBack 42 = .ok (.invokestatic 198, 3) := by decide +kernel
theorem dX4_leadsBack_45 : decode cX4_leadsBack 45 = .ok (.aload_n 0, 1) := by decide +kernel
theorem dX4_leadsBack_46 : decode cX4_leadsBack 46 = .ok (.getfield 23, 3) := by decide +kernel
theorem dX4_leadsBack_49 : decode cX4_leadsBack 49 = .ok (.iload_n 2, 1) := by decide +kernel
theorem dX4_leadsBack_50 : decode cX4_leadsBack 50 = .ok (.aaload, 1) := by decide +kernel
theorem dX4_leadsBack_51 : decode cX4_leadsBack 51 = .ok (.invokestatic 198, 3) := by decide +kernel
theorem dX4_leadsBack_54 : decode cX4_leadsBack 54 = .ok (.if_icmp .ne 7, 3) := by decide +kernel
theorem dX4_leadsBack_57 : decode cX4_leadsBack 57 = .ok (.iconst 1, 1) := by decide +kernel
theorem dX4_leadsBack_58 : decode cX4_leadsBack 58 = .ok (.goto 4, 3) := by decide +kernel
theorem dX4_leadsBack_61 : decode cX4_leadsBack 61 = .ok (.iconst 0, 1) := by decide +kernel
theorem dX4_leadsBack_62 : decode cX4_leadsBack 62 = .ok (.ireturn, 1) := by decide +kernel
theorem dX4_isToldBack_0 : decode cX4_isToldBack 0 = .ok (.aload_n 0, 1) := by decide +kernel
theorem dX4_isToldBack_1 : decode cX4_isToldBack 1 = .ok (.iload_n 1, 1) := by decide +kernel
theorem dX4_isToldBack_2 : decode cX4_isToldBack 2 = .ok (.invokestatic 95, 3) := by decide +kernel
theorem dX4_isToldBack_5 : decode cX4_isToldBack 5 = .ok (.ifCond .ne 10, 3) := by decide +kernel
theorem dX4_isToldBack_8 : decode cX4_isToldBack 8 = .ok (.iload_n 2, 1) := by decide +kernel
theorem dX4_isToldBack_9 : decode cX4_isToldBack 9 = .ok (.invokestatic 95, 3) := by decide +kernel
theorem dX4_isToldBack_12 : decode cX4_isToldBack 12 = .ok (.ifCond .eq 7, 3) := by decide +kernel
theorem dX4_isToldBack_15 : decode cX4_isToldBack 15 = .ok (.iconst 1, 1) := by decide +kernel
theorem dX4_isToldBack_16 : decode cX4_isToldBack 16 = .ok (.goto 4, 3) := by decide +kernel
theorem dX4_isToldBack_19 : decode cX4_isToldBack 19 = .ok (.iconst 0, 1) := by decide +kernel
theorem dX4_isToldBack_20 : decode cX4_isToldBack 20 = .ok (.iconst 0, 1) := by decide +kernel
theorem dX4_isToldBack_21 : decode cX4_isToldBack 21 = .ok (.invokevirtual 99, 3) := by decide +kernel
theorem dX4_isToldBack_24 : decode cX4_isToldBack 24 = .ok (.ifCond .ne 16, 3) := by decide +kernel
theorem dX4_isToldBack_27 : decode cX4_isToldBack 27 = .ok (.aload_n 0, 1) := by decide +kernel
theorem dX4_isToldBack_28 : decode cX4_isToldBack 28 = .ok (.iload_n 1, 1) := by decide +kernel
theorem dX4_isToldBack_29 : decode cX4_isToldBack 29 = .ok (.iload_n 2, 1) := by decide +kernel
theorem dX4_isToldBack_30 : decode cX4_isToldBack 30 = .ok (.invokevirtual 239, 3) := by decide +kernel
theorem dX4_isToldBack_33 : decode cX4_isToldBack 33 = .ok (.ifCond .eq 7, 3) := by decide +kernel
theorem dX4_isToldBack_36 : decode cX4_isToldBack 36 = .ok (.iconst 1, 1) := by decide +kernel
theorem dX4_isToldBack_37 : decode cX4_isToldBack 37 = .ok (.goto 4, 3) := by decide +kernel
theorem dX4_isToldBack_40 : decode cX4_isToldBack 40 = .ok (.iconst 0, 1) := by decide +kernel
theorem dX4_isToldBack_41 : decode cX4_isToldBack 41 = .ok (.ireturn, 1) := by decide +kernel
theorem dX4_orderNow_0 : decode cX4_orderNow 0 = .ok (.aload_n 0, 1) := by decide +kernel
theorem dX4_orderNow_1 : decode cX4_orderNow 1 = .ok (.getfield 23, 3) := by decide +kernel
theorem dX4_orderNow_4 : decode cX4_orderNow 4 = .ok (.iload_n 1, 1) := by decide +kernel
theorem dX4_orderNow_5 : decode cX4_orderNow 5 = .ok (.aaload, 1) := by decide +kernel
theorem dX4_orderNow_6 : decode cX4_orderNow 6 = .ok (.invokestatic 198, 3) := by decide +kernel
theorem dX4_orderNow_9 : decode cX4_orderNow 9 = .ok (.aload_n 0, 1) := by decide +kernel
theorem dX4_orderNow_10 : decode cX4_orderNow 10 = .ok (.getfield 23, 3) := by decide +kernel
theorem dX4_orderNow_13 : decode cX4_orderNow 13 = .ok (.iload_n 2, 1) := by decide +kernel
theorem dX4_orderNow_14 : decode cX4_orderNow 14 = .ok (.aaload, 1) := by decide +kernel
theorem dX4_orderNow_15 : decode cX4_orderNow 15 = .ok (.invokestatic 198, 3) := by decide +kernel
theorem dX4_orderNow_18 : decode cX4_orderNow 18 = .ok (.isub, 1) := by decide +kernel
theorem dX4_orderNow_19 : decode cX4_orderNow 19 = .ok (.istore_n 3, 1) := by decide +kernel
theorem dX4_orderNow_20 : decode cX4_orderNow 20 = .ok (.iload_n 3, 1) := by decide +kernel
theorem dX4_orderNow_21 : decode cX4_orderNow 21 = .ok (.ifCond .ge 7, 3) := by decide +kernel
theorem dX4_orderNow_24 : decode cX4_orderNow 24 = .ok (.iconst (-1), 1) := by decide +kernel
theorem dX4_orderNow_25 : decode cX4_orderNow 25 = .ok (.goto 15, 3) := by decide +kernel
theorem dX4_orderNow_28 : decode cX4_orderNow 28 = .ok (.iload_n 3, 1) := by decide +kernel
theorem dX4_orderNow_29 : decode cX4_orderNow 29 = .ok (.ifCond .le 7, 3) := by decide +kernel
theorem dX4_orderNow_32 : decode cX4_orderNow 32 = .ok (.iconst 1, 1) := by decide +kernel
theorem dX4_orderNow_33 : decode cX4_orderNow 33 = .ok (.goto 4, 3) := by decide +kernel
theorem dX4_orderNow_36 : decode cX4_orderNow 36 = .ok (.iconst 0, 1) := by decide +kernel
theorem dX4_orderNow_37 : decode cX4_orderNow 37 = .ok (.invokestatic 91, 3) := by decide +kernel
theorem dX4_orderNow_40 : decode cX4_orderNow 40 = .ok (.ireturn, 1) := by decide +kernel
theorem dX4_order_0 : decode cX4_order 0 = .ok (.aload_n 0, 1) := by decide +kernel
theorem dX4_order_1 : decode cX4_order 1 = .ok (.iload_n 1, 1) := by decide +kernel
theorem dX4_order_2 : decode cX4_order 2 = .ok (.invokestatic 95, 3) := by decide +kernel
theorem dX4_order_5 : decode cX4_order 5 = .ok (.ifCond .ne 10, 3) := by decide +kernel
theorem dX4_order_8 : decode cX4_order 8 = .ok (.iload_n 2, 1) := by decide +kernel
theorem dX4_order_9 : decode cX4_order 9 = .ok (.invokestatic 95, 3) := by decide +kernel
theorem dX4_order_12 : decode cX4_order 12 = .ok (.ifCond .eq 7, 3) := by decide +kernel
theorem dX4_order_15 : decode cX4_order 15 = .ok (.iconst 1, 1) := by decide +kernel
theorem dX4_order_16 : decode cX4_order 16 = .ok (.goto 4, 3) := by decide +kernel
theorem dX4_order_19 : decode cX4_order 19 = .ok (.iconst 0, 1) := by decide +kernel
theorem dX4_order_20 : decode cX4_order 20 = .ok (.iconst 0, 1) := by decide +kernel
theorem dX4_order_21 : decode cX4_order 21 = .ok (.invokevirtual 99, 3) := by decide +kernel
theorem dX4_order_24 : decode cX4_order 24 = .ok (.ifCond .eq 7, 3) := by decide +kernel
theorem dX4_order_27 : decode cX4_order 27 = .ok (.iconst 0, 1) := by decide +kernel
theorem dX4_order_28 : decode cX4_order 28 = .ok (.goto 9, 3) := by decide +kernel
theorem dX4_order_31 : decode cX4_order 31 = .ok (.aload_n 0, 1) := by decide +kernel
theorem dX4_order_32 : decode cX4_order 32 = .ok (.iload_n 1, 1) := by decide +kernel
theorem dX4_order_33 : decode cX4_order 33 = .ok (.iload_n 2, 1) := by decide +kernel
theorem dX4_order_34 : decode cX4_order 34 = .ok (.invokevirtual 243, 3) := by decide +kernel
theorem dX4_order_37 : decode cX4_order 37 = .ok (.ireturn, 1) := by decide +kernel
theorem dX4_knock_0 : decode cX4_knock 0 = .ok (.aload_n 0, 1) := by decide +kernel
theorem dX4_knock_1 : decode cX4_knock 1 = .ok (.iconst 0, 1) := by decide +kernel
theorem dX4_knock_2 : decode cX4_knock 2 = .ok (.putfield 26, 3) := by decide +kernel
theorem dX4_knock_5 : decode cX4_knock 5 = .ok (.aload_n 0, 1) := by decide +kernel
theorem dX4_knock_6 : decode cX4_knock 6 = .ok (.dup, 1) := by decide +kernel
theorem dX4_knock_7 : decode cX4_knock 7 = .ok (.getfield 246, 3) := by decide +kernel
theorem dX4_knock_10 : decode cX4_knock 10 = .ok (.iconst 1, 1) := by decide +kernel
theorem dX4_knock_11 : decode cX4_knock 11 = .ok (.iadd, 1) := by decide +kernel
theorem dX4_knock_12 : decode cX4_knock 12 = .ok (.putfield 246, 3) := by decide +kernel
theorem dX4_knock_15 : decode cX4_knock 15 = .ok (.aload_n 0, 1) := by decide +kernel
theorem dX4_knock_16 : decode cX4_knock 16 = .ok (.getfield 246, 3) := by decide +kernel
theorem dX4_knock_19 : decode cX4_knock 19 = .ok (.ireturn, 1) := by decide +kernel
theorem dX4_houseNow_0 : decode cX4_houseNow 0 = .ok (.iconst 0, 1) := by decide +kernel
theorem dX4_houseNow_1 : decode cX4_houseNow 1 = .ok (.istore_n 2, 1) := by decide +kernel
theorem dX4_houseNow_2 : decode cX4_houseNow 2 = .ok (.iconst 0, 1) := by decide +kernel
theorem dX4_houseNow_3 : decode cX4_houseNow 3 = .ok (.istore_n 3, 1) := by decide +kernel
theorem dX4_houseNow_4 : decode cX4_houseNow 4 = .ok (.iconst 0, 1) := by decide +kernel
theorem dX4_houseNow_5 : decode cX4_houseNow 5 = .ok (.istore 4, 2) := by decide +kernel
theorem dX4_houseNow_7 : decode cX4_houseNow 7 = .ok (.iload 4, 2) := by decide +kernel
theorem dX4_houseNow_9 : decode cX4_houseNow 9 = .ok (.iconst 4, 1) := by decide +kernel
theorem dX4_houseNow_10 : decode cX4_houseNow 10 = .ok (.if_icmp .ge 33, 3) := by decide +kernel
theorem dX4_houseNow_13 : decode cX4_houseNow 13 = .ok (.iload_n 2, 1) := by decide +kernel
theorem dX4_houseNow_14 : decode cX4_houseNow 14 = .ok (.aload_n 0, 1) := by decide +kernel
theorem dX4_houseNow_15 : decode cX4_houseNow 15 = .ok (.iload 4, 2) := by decide +kernel
theorem dX4_houseNow_17 : decode cX4_houseNow 17 = .ok (.invokevirtual 156, 3) := by decide +kernel
theorem dX4_houseNow_20 : decode cX4_houseNow 20 = .ok (.invokestatic 91, 3) := by decide +kernel
theorem dX4_houseNow_23 : decode cX4_houseNow 23 = .ok (.iadd, 1) := by decide +kernel
theorem dX4_houseNow_24 : decode cX4_houseNow 24 = .ok (.istore_n 2, 1) := by decide +kernel
theorem dX4_houseNow_25 : decode cX4_houseNow 25 = .ok (.iload_n 3, 1) := by decide +kernel
theorem dX4_houseNow_26 : decode cX4_houseNow 26 = .ok (.aload_n 0, 1) := by decide +kernel
theorem dX4_houseNow_27 : decode cX4_houseNow 27 = .ok (.iload 4, 2) := by decide +kernel
theorem dX4_houseNow_29 : decode cX4_houseNow 29 = .ok (.invokevirtual 159, 3) := by decide +kernel
theorem dX4_houseNow_32 : decode cX4_houseNow 32 = .ok (.invokestatic 91, 3) := by decide +kernel
theorem dX4_houseNow_35 : decode cX4_houseNow 35 = .ok (.iadd, 1) := by decide +kernel
theorem dX4_houseNow_36 : decode cX4_houseNow 36 = .ok (.istore_n 3, 1) := by decide +kernel
theorem dX4_houseNow_37 : decode cX4_houseNow 37 = .ok (.iinc 4 1, 3) := by decide +kernel
theorem dX4_houseNow_40 : decode cX4_houseNow 40 = .ok (.goto (-33), 3) := by decide +kernel
theorem dX4_houseNow_43 : decode cX4_houseNow 43 = .ok (.iconst 5, 1) := by decide +kernel
theorem dX4_houseNow_44 : decode cX4_houseNow 44 = .ok (.newarray .int, 2) := by decide +kernel
theorem dX4_houseNow_46 : decode cX4_houseNow 46 = .ok (.dup, 1) := by decide +kernel
theorem dX4_houseNow_47 : decode cX4_houseNow 47 = .ok (.iconst 0, 1) := by decide +kernel
theorem dX4_houseNow_48 : decode cX4_houseNow 48 = .ok (.aload_n 0, 1) := by decide +kernel
theorem dX4_houseNow_49 : decode cX4_houseNow 49 = .ok (.getfield 246, 3) := by decide +kernel
theorem dX4_houseNow_52 : decode cX4_houseNow 52 = .ok (.iastore, 1) := by decide +kernel
theorem dX4_houseNow_53 : decode cX4_houseNow 53 = .ok (.dup, 1) := by decide +kernel
theorem dX4_houseNow_54 : decode cX4_houseNow 54 = .ok (.iconst 1, 1) := by decide +kernel
theorem dX4_houseNow_55 : decode cX4_houseNow 55 = .ok (.aload_n 0, 1) := by decide +kernel
theorem dX4_houseNow_56 : decode cX4_houseNow 56 = .ok (.getfield 30, 3) := by decide +kernel
theorem dX4_houseNow_59 : decode cX4_houseNow 59 = .ok (.iastore, 1) := by decide +kernel
theorem dX4_houseNow_60 : decode cX4_houseNow 60 = .ok (.dup, 1) := by decide +kernel
theorem dX4_houseNow_61 : decode cX4_houseNow 61 = .ok (.iconst 2, 1) := by decide +kernel
theorem dX4_houseNow_62 : decode cX4_houseNow 62 = .ok (.aload_n 0, 1) := by decide +kernel
theorem dX4_houseNow_63 : decode cX4_houseNow 63 = .ok (.getfield 17, 3) := by decide +kernel
theorem dX4_houseNow_66 : decode cX4_houseNow 66 = .ok (.invokevirtual 128, 3) := by decide +kernel
theorem dX4_houseNow_69 : decode cX4_houseNow 69 = .ok (.iastore, 1) := by decide +kernel
theorem dX4_houseNow_70 : decode cX4_houseNow 70 = .ok (.dup, 1) := by decide +kernel
theorem dX4_houseNow_71 : decode cX4_houseNow 71 = .ok (.iconst 3, 1) := by decide +kernel
theorem dX4_houseNow_72 : decode cX4_houseNow 72 = .ok (.iload_n 2, 1) := by decide +kernel
theorem dX4_houseNow_73 : decode cX4_houseNow 73 = .ok (.iastore, 1) := by decide +kernel
theorem dX4_houseNow_74 : decode cX4_houseNow 74 = .ok (.dup, 1) := by decide +kernel
theorem dX4_houseNow_75 : decode cX4_houseNow 75 = .ok (.iconst 4, 1) := by decide +kernel
theorem dX4_houseNow_76 : decode cX4_houseNow 76 = .ok (.iload_n 3, 1) := by decide +kernel
theorem dX4_houseNow_77 : decode cX4_houseNow 77 = .ok (.iastore, 1) := by decide +kernel
theorem dX4_houseNow_78 : decode cX4_houseNow 78 = .ok (.astore 4, 2) := by decide +kernel
theorem dX4_houseNow_80 : decode cX4_houseNow 80 = .ok (.aload 4, 2) := by decide +kernel
theorem dX4_houseNow_82 : decode cX4_houseNow 82 = .ok (.iload_n 1, 1) := by decide +kernel
theorem dX4_houseNow_83 : decode cX4_houseNow 83 = .ok (.iaload, 1) := by decide +kernel
theorem dX4_houseNow_84 : decode cX4_houseNow 84 = .ok (.ireturn, 1) := by decide +kernel
theorem dX4_house_0 : decode cX4_house 0 = .ok (.aload_n 0, 1) := by decide +kernel
theorem dX4_house_1 : decode cX4_house 1 = .ok (.iconst 0, 1) := by decide +kernel
theorem dX4_house_2 : decode cX4_house 2 = .ok (.iconst 0, 1) := by decide +kernel
theorem dX4_house_3 : decode cX4_house 3 = .ok (.invokevirtual 99, 3) := by decide +kernel
theorem dX4_house_6 : decode cX4_house 6 = .ok (.ifCond .ne 28, 3) := by decide +kernel
theorem dX4_house_9 : decode cX4_house 9 = .ok (.aload_n 0, 1) := by decide +kernel
theorem dX4_house_10 : decode cX4_house 10 = .ok (.iload_n 1, 1) := by decide +kernel
theorem dX4_house_11 : decode cX4_house 11 = .ok (.i2l, 1) := by decide +kernel
theorem dX4_house_12 : decode cX4_house 12 = .ok (.lconst 0, 1) := by decide +kernel
theorem dX4_house_13 : decode cX4_house 13 = .ok (.ldc2_w 249, 3) := by decide +kernel
theorem dX4_house_16 : decode cX4_house 16 = .ok (.invokestatic 37, 3) := by decide +kernel
theorem dX4_house_19 : decode cX4_house 19 = .ok (.ifCond .ne 7, 3) := by decide +kernel
theorem dX4_house_22 : decode cX4_house 22 = .ok (.iconst 1, 1) := by decide +kernel
theorem dX4_house_23 : decode cX4_house 23 = .ok (.goto 4, 3) := by decide +kernel
theorem dX4_house_26 : decode cX4_house 26 = .ok (.iconst 0, 1) := by decide +kernel
theorem dX4_house_27 : decode cX4_house 27 = .ok (.iconst 0, 1) := by decide +kernel
theorem dX4_house_28 : decode cX4_house 28 = .ok (.invokevirtual 99, 3) := by decide +kernel
theorem dX4_house_31 : decode cX4_house 31 = .ok (.ifCond .eq 7, 3) := by decide +kernel
theorem dX4_house_34 : decode cX4_house 34 = .ok (.iconst 0, 1) := by decide +kernel
theorem dX4_house_35 : decode cX4_house 35 = .ok (.goto 8, 3) := by decide +kernel
theorem dX4_house_38 : decode cX4_house 38 = .ok (.aload_n 0, 1) := by decide +kernel
theorem dX4_house_39 : decode cX4_house 39 = .ok (.iload_n 1, 1) := by decide +kernel
theorem dX4_house_40 : decode cX4_house 40 = .ok (.invokevirtual 251, 3) := by decide +kernel
theorem dX4_house_43 : decode cX4_house 43 = .ok (.ireturn, 1) := by decide +kernel
theorem dX4_isSpanSound_0 : decode cX4_isSpanSound 0 = .ok (.aload_n 0, 1) := by decide +kernel
theorem dX4_isSpanSound_1 : decode cX4_isSpanSound 1 = .ok (.invokestatic 121, 3) := by decide +kernel
theorem dX4_isSpanSound_4 : decode cX4_isSpanSound 4 = .ok (.ifnull 17, 3) := by decide +kernel
theorem dX4_isSpanSound_7 : decode cX4_isSpanSound 7 = .ok (.aload_n 0, 1) := by decide +kernel
theorem dX4_isSpanSound_8 : decode cX4_isSpanSound 8 = .ok (.invokestatic 121, 3) := by decide +kernel
theorem dX4_isSpanSound_11 : decode cX4_isSpanSound 11 = .ok (.invokestatic 121, 3) := by decide +kernel
theorem dX4_isSpanSound_14 : decode cX4_isSpanSound 14 = .ok (.aload_n 0, 1) := by decide +kernel
theorem dX4_isSpanSound_15 : decode cX4_isSpanSound 15 = .ok (.invokestatic 87, 3) := by decide +kernel
theorem dX4_isSpanSound_18 : decode cX4_isSpanSound 18 = .ok (.ifCond .eq 7, 3) := by decide +kernel
theorem dX4_isSpanSound_21 : decode cX4_isSpanSound 21 = .ok (.iconst 1, 1) := by decide +kernel
theorem dX4_isSpanSound_22 : decode cX4_isSpanSound 22 = .ok (.goto 4, 3) := by decide +kernel
theorem dX4_isSpanSound_25 : decode cX4_isSpanSound 25 = .ok (.iconst 0, 1) := by decide +kernel
theorem dX4_isSpanSound_26 : decode cX4_isSpanSound 26 = .ok (.istore_n 1, 1) := by decide +kernel
theorem dX4_isSpanSound_27 : decode cX4_isSpanSound 27 = .ok (.aload_n 0, 1) := by decide +kernel
theorem dX4_isSpanSound_28 : decode cX4_isSpanSound 28 = .ok (.invokestatic 125, 3) := by decide +kernel
theorem dX4_isSpanSound_31 : decode cX4_isSpanSound 31 = .ok (.astore_n 2, 1) := by decide +kernel
theorem dX4_isSpanSound_32 : decode cX4_isSpanSound 32 = .ok (.iload_n 1, 1) := by decide +kernel
theorem dX4_isSpanSound_33 : decode cX4_isSpanSound 33 = .ok (.ifCond .eq 30, 3) := by decide +kernel
theorem dX4_isSpanSound_36 : decode cX4_isSpanSound 36 = .ok (.aload_n 2, 1) := by decide +kernel
theorem dX4_isSpanSound_37 : decode cX4_isSpanSound 37 = .ok (.ifnull 22, 3) := by decide +kernel
theorem dX4_isSpanSound_40 : decode cX4_isSpanSound 40 = .ok (.aload_n 2, 1) := by decide +kernel
theorem dX4_isSpanSound_41 : decode cX4_isSpanSound 41 = .ok (.aload_n 0, 1) := by decide +kernel
theorem dX4_isSpanSound_42 : decode cX4_isSpanSound 42 = .ok (.invokestatic 162, 3) := by decide +kernel
theorem dX4_isSpanSound_45 : decode cX4_isSpanSound 45 = .ok (.ifCond .eq 18, 3) := by decide +kernel
theorem dX4_isSpanSound_48 : decode cX4_isSpanSound 48 = .ok (.aload_n 2, 1) := by decide +kernel
theorem dX4_isSpanSound_49 : decode cX4_isSpanSound 49 = .ok (.invokestatic 125, 3) := by decide +kernel
theorem dX4_isSpanSound_52 : decode cX4_isSpanSound 52 = .ok (.aload_n 2, 1) := by decide +kernel
theorem dX4_isSpanSound_53 : decode cX4_isSpanSound 53 = .ok (.invokestatic 87, 3) := by decide +kernel
theorem dX4_isSpanSound_56 : decode cX4_isSpanSound 56 = .ok (.ifCond .eq 7, 3) := by decide +kernel
theorem dX4_isSpanSound_59 : decode cX4_isSpanSound 59 = .ok (.iconst 1, 1) := by decide +kernel
theorem dX4_isSpanSound_60 : decode cX4_isSpanSound 60 = .ok (.goto 4, 3) := by decide +kernel
theorem dX4_isSpanSound_63 : decode cX4_isSpanSound 63 = .ok (.iconst 0, 1) := by decide +kernel
theorem dX4_isSpanSound_64 : decode cX4_isSpanSound 64 = .ok (.ireturn, 1) := by decide +kernel
theorem dX4_areSound_0 : decode cX4_areSound 0 = .ok (.aload_n 0, 1) := by decide +kernel
theorem dX4_areSound_1 : decode cX4_areSound 1 = .ok (.lconst 1, 1) := by decide +kernel
theorem dX4_areSound_2 : decode cX4_areSound 2 = .ok (.aload_n 1, 1) := by decide +kernel
theorem dX4_areSound_3 : decode cX4_areSound 3 = .ok (.invokestatic 57, 3) := by decide +kernel
theorem dX4_areSound_6 : decode cX4_areSound 6 = .ok (.astore_n 2, 1) := by decide +kernel
theorem dX4_areSound_7 : decode cX4_areSound 7 = .ok (.aload_n 1, 1) := by decide +kernel
theorem dX4_areSound_8 : decode cX4_areSound 8 = .ok (.lconst 1, 1) := by decide +kernel
theorem dX4_areSound_9 : decode cX4_areSound 9 = .ok (.aload_n 0, 1) := by decide +kernel
theorem dX4_areSound_10 : decode cX4_areSound 10 = .ok (.invokestatic 57, 3) := by decide +kernel
theorem dX4_areSound_13 : decode cX4_areSound 13 = .ok (.astore_n 3, 1) := by decide +kernel
theorem dX4_areSound_14 : decode cX4_areSound 14 = .ok (.aload_n 2, 1) := by decide +kernel
theorem dX4_areSound_15 : decode cX4_areSound 15 = .ok (.ifnull 7, 3) := by decide +kernel
theorem dX4_areSound_18 : decode cX4_areSound 18 = .ok (.aload_n 3, 1) := by decide +kernel
theorem dX4_areSound_19 : decode cX4_areSound 19 = .ok (.ifnonnull 17, 3) := by decide +kernel
theorem dX4_areSound_22 : decode cX4_areSound 22 = .ok (.aload_n 2, 1) := by decide +kernel
theorem dX4_areSound_23 : decode cX4_areSound 23 = .ok (.ifnonnull 11, 3) := by decide +kernel
theorem dX4_areSound_26 : decode cX4_areSound 26 = .ok (.aload_n 3, 1) := by decide +kernel
theorem dX4_areSound_27 : decode cX4_areSound 27 = .ok (.ifnonnull 7, 3) := by decide +kernel
theorem dX4_areSound_30 : decode cX4_areSound 30 = .ok (.iconst 1, 1) := by decide +kernel
theorem dX4_areSound_31 : decode cX4_areSound 31 = .ok (.goto 4, 3) := by decide +kernel
theorem dX4_areSound_34 : decode cX4_areSound 34 = .ok (.iconst 0, 1) := by decide +kernel
theorem dX4_areSound_35 : decode cX4_areSound 35 = .ok (.ireturn, 1) := by decide +kernel
theorem dX4_areSound_36 : decode cX4_areSound 36 = .ok (.aload_n 2, 1) := by decide +kernel
theorem dX4_areSound_37 : decode cX4_areSound 37 = .ok (.aload_n 3, 1) := by decide +kernel
theorem dX4_areSound_38 : decode cX4_areSound 38 = .ok (.invokestatic 87, 3) := by decide +kernel
theorem dX4_areSound_41 : decode cX4_areSound 41 = .ok (.ifCond .eq 22, 3) := by decide +kernel
theorem dX4_areSound_44 : decode cX4_areSound 44 = .ok (.aload_n 2, 1) := by decide +kernel
theorem dX4_areSound_45 : decode cX4_areSound 45 = .ok (.ldc2_w 55, 3) := by decide +kernel
theorem dX4_areSound_48 : decode cX4_areSound 48 = .ok (.aload_n 1, 1) := by decide +kernel
theorem dX4_areSound_49 : decode cX4_areSound 49 = .ok (.invokestatic 57, 3) := by decide +kernel
theorem dX4_areSound_52 : decode cX4_areSound 52 = .ok (.aload_n 0, 1) := by decide +kernel
theorem dX4_areSound_53 : decode cX4_areSound 53 = .ok (.invokestatic 87, 3) := by decide +kernel
theorem dX4_areSound_56 : decode cX4_areSound 56 = .ok (.ifCond .eq 7, 3) := by decide +kernel
theorem dX4_areSound_59 : decode cX4_areSound 59 = .ok (.iconst 1, 1) := by decide +kernel
theorem dX4_areSound_60 : decode cX4_areSound 60 = .ok (.goto 4, 3) := by decide +kernel
theorem dX4_areSound_63 : decode cX4_areSound 63 = .ok (.iconst 0, 1) := by decide +kernel
theorem dX4_areSound_64 : decode cX4_areSound 64 = .ok (.istore 4, 2) := by decide +kernel
theorem dX4_areSound_66 : decode cX4_areSound 66 = .ok (.iload 4, 2) := by decide +kernel
theorem dX4_areSound_68 : decode cX4_areSound 68 = .ok (.ifCond .eq 40, 3) := by decide +kernel
theorem dX4_areSound_71 : decode cX4_areSound 71 = .ok (.aload_n 0, 1) := by decide +kernel
theorem dX4_areSound_72 : decode cX4_areSound 72 = .ok (.invokestatic 121, 3) := by decide +kernel
theorem dX4_areSound_75 : decode cX4_areSound 75 = .ok (.ifnull 29, 3) := by decide +kernel
theorem dX4_areSound_78 : decode cX4_areSound 78 = .ok (.aload_n 1, 1) := by decide +kernel
theorem dX4_areSound_79 : decode cX4_areSound 79 = .ok (.invokestatic 121, 3) := by decide +kernel
theorem dX4_areSound_82 : decode cX4_areSound 82 = .ok (.ifnull 22, 3) := by decide +kernel
theorem dX4_areSound_85 : decode cX4_areSound 85 = .ok (.aload_n 0, 1) := by decide +kernel
theorem dX4_areSound_86 : decode cX4_areSound 86 = .ok (.aload_n 1, 1) := by decide +kernel
theorem dX4_areSound_87 : decode cX4_areSound 87 = .ok (.invokestatic 162, 3) := by decide +kernel
theorem dX4_areSound_90 : decode cX4_areSound 90 = .ok (.aload_n 0, 1) := by decide +kernel
theorem dX4_areSound_91 : decode cX4_areSound 91 = .ok (.invokestatic 121, 3) := by decide +kernel
theorem dX4_areSound_94 : decode cX4_areSound 94 = .ok (.aload_n 1, 1) := by decide +kernel
theorem dX4_areSound_95 : decode cX4_areSound 95 = .ok (.invokestatic 121, 3) := by decide +kernel
theorem dX4_areSound_98 : decode cX4_areSound 98 = .ok (.invokestatic 162, 3) := by decide +kernel
theorem dX4_areSound_101 : decode cX4_areSound 101 = .ok (.if_icmp .ne 7, 3) := by decide +kernel
theorem dX4_areSound_104 : decode cX4_areSound 104 = .ok (.iconst 1, 1) := by decide +kernel
theorem dX4_areSound_105 : decode cX4_areSound 105 = .ok (.goto 4, 3) := by decide +kernel
theorem dX4_areSound_108 : decode cX4_areSound 108 = .ok (.iconst 0, 1) := by decide +kernel
theorem dX4_areSound_109 : decode cX4_areSound 109 = .ok (.ireturn, 1) := by decide +kernel
theorem dX4_isSoundNow_0 : decode cX4_isSoundNow 0 = .ok (.iconst 1, 1) := by decide +kernel
theorem dX4_isSoundNow_1 : decode cX4_isSoundNow 1 = .ok (.istore_n 1, 1) := by decide +kernel
theorem dX4_isSoundNow_2 : decode cX4_isSoundNow 2 = .ok (.iconst 0, 1) := by decide +kernel
theorem dX4_isSoundNow_3 : decode cX4_isSoundNow 3 = .ok (.istore_n 2, 1) := by decide +kernel
theorem dX4_isSoundNow_4 : decode cX4_isSoundNow 4 = .ok (.iload_n 2, 1) := by decide +kernel
theorem dX4_isSoundNow_5 : decode cX4_isSoundNow 5 = .ok (.iconst 4, 1) := by decide +kernel
theorem dX4_isSoundNow_6 : decode cX4_isSoundNow 6 = .ok (.if_icmp .ge 87, 3) := by decide +kernel
theorem dX4_isSoundNow_9 : decode cX4_isSoundNow 9 = .ok (.iload_n 1, 1) := by decide +kernel
theorem dX4_isSoundNow_10 : decode cX4_isSoundNow 10 = .ok (.aload_n 0, 1) := by decide +kernel
theorem dX4_isSoundNow_11 : decode cX4_isSoundNow 11 = .ok (.getfield 11, 3) := by decide +kernel
theorem dX4_isSoundNow_14 : decode cX4_isSoundNow 14 = .ok (.iload_n 2, 1) := by decide +kernel
theorem dX4_isSoundNow_15 : decode cX4_isSoundNow 15 = .ok (.aaload, 1) := by decide +kernel
theorem dX4_isSoundNow_16 : decode cX4_isSoundNow 16 = .ok (.invokestatic 254, 3) := by decide +kernel
theorem dX4_isSoundNow_19 : decode cX4_isSoundNow 19 = .ok (.iand, 1) := by decide +kernel
theorem dX4_isSoundNow_20 : decode cX4_isSoundNow 20 = .ok (.istore_n 1, 1) := by decide +kernel
theorem dX4_isSoundNow_21 : decode cX4_isSoundNow 21 = .ok (.iconst 0, 1) := by decide +kernel
theorem dX4_isSoundNow_22 : decode cX4_isSoundNow 22 = .ok (.istore_n 3, 1) := by decide +kernel
theorem dX4_isSoundNow_23 : decode cX4_isSoundNow 23 = .ok (.iload_n 3, 1) := by decide +kernel
theorem dX4_isSoundNow_24 : decode cX4_isSoundNow 24 = .ok (.iconst 4, 1) := by decide +kernel
theorem dX4_isSoundNow_25 : decode cX4_isSoundNow 25 = .ok (.if_icmp .ge 62, 3) := by decide +kernel
theorem dX4_isSoundNow_28 : decode cX4_isSoundNow 28 = .ok (.iload_n 1, 1) := by decide +kernel
theorem dX4_isSoundNow_29 : decode cX4_isSoundNow 29 = .ok (.aload_n 0, 1) := by decide +kernel
theorem dX4_isSoundNow_30 : decode cX4_isSoundNow 30 = .ok (.getfield 11, 3) := by decide +kernel
theorem dX4_isSoundNow_33 : decode cX4_isSoundNow 33 = .ok (.iload_n 2, 1) := by decide +kernel
theorem dX4_isSoundNow_34 : decode cX4_isSoundNow 34 = .ok (.aaload, 1) := by decide +kernel
theorem dX4_isSoundNow_35 : decode cX4_isSoundNow 35 = .ok (.aload_n 0, 1) := by decide +kernel
theorem dX4_isSoundNow_36 : decode cX4_isSoundNow 36 = .ok (.getfield 11, 3) := by decide +kernel
theorem dX4_isSoundNow_39 : decode cX4_isSoundNow 39 = .ok (.iload_n 3, 1) := by decide +kernel
theorem dX4_isSoundNow_40 : decode cX4_isSoundNow 40 = .ok (.aaload, 1) := by decide +kernel
theorem dX4_isSoundNow_41 : decode cX4_isSoundNow 41 = .ok (.invokestatic 258, 3) := by decide +kernel
theorem dX4_isSoundNow_44 : decode cX4_isSoundNow 44 = .ok (.ifCond .eq 34, 3) := by decide +kernel
theorem dX4_isSoundNow_47 : decode cX4_isSoundNow 47 = .ok (.aload_n 0, 1) := by decide +kernel
theorem dX4_isSoundNow_48 : decode cX4_isSoundNow 48 = .ok (.getfield 23, 3) := by decide +kernel
theorem dX4_isSoundNow_51 : decode cX4_isSoundNow 51 = .ok (.iload_n 2, 1) := by decide +kernel
theorem dX4_isSoundNow_52 : decode cX4_isSoundNow 52 = .ok (.aaload, 1) := by decide +kernel
theorem dX4_isSoundNow_53 : decode cX4_isSoundNow 53 = .ok (.aload_n 0, 1) := by decide +kernel
theorem dX4_isSoundNow_54 : decode cX4_isSoundNow 54 = .ok (.getfield 23, 3) := by decide +kernel
theorem dX4_isSoundNow_57 : decode cX4_isSoundNow 57 = .ok (.iload_n 3, 1) := by decide +kernel
theorem dX4_isSoundNow_58 : decode cX4_isSoundNow 58 = .ok (.aaload, 1) := by decide +kernel
theorem dX4_isSoundNow_59 : decode cX4_isSoundNow 59 = .ok (.invokestatic 219, 3) := by decide +kernel
theorem dX4_isSoundNow_62 : decode cX4_isSoundNow 62 = .ok (.ifnull 12, 3) := by decide +kernel
theorem dX4_isSoundNow_65 : decode cX4_isSoundNow 65 = .ok (.aload_n 0, 1) := by decide +kernel
theorem dX4_isSoundNow_66 : decode cX4_isSoundNow 66 = .ok (.iload_n 2, 1) := by decide +kernel
theorem dX4_isSoundNow_67 : decode cX4_isSoundNow 67 = .ok (.iload_n 3, 1) := by decide +kernel
theorem dX4_isSoundNow_68 : decode cX4_isSoundNow 68 = .ok (.invokevirtual 239, 3) := by decide +kernel
theorem dX4_isSoundNow_71 : decode cX4_isSoundNow 71 = .ok (.ifCond .eq 7, 3) := by decide +kernel
theorem dX4_isSoundNow_74 : decode cX4_isSoundNow 74 = .ok (.iconst 1, 1) := by decide +kernel
theorem dX4_isSoundNow_75 : decode cX4_isSoundNow 75 = .ok (.goto 4, 3) := by decide +kernel
theorem dX4_isSoundNow_78 : decode cX4_isSoundNow 78 = .ok (.iconst 0, 1) := by decide +kernel
theorem dX4_isSoundNow_79 : decode cX4_isSoundNow 79 = .ok (.iand, 1) := by decide +kernel
theorem dX4_isSoundNow_80 : decode cX4_isSoundNow 80 = .ok (.istore_n 1, 1) := by decide +kernel
theorem dX4_isSoundNow_81 : decode cX4_isSoundNow 81 = .ok (.iinc 3 1, 3) := by decide +kernel
theorem dX4_isSoundNow_84 : decode cX4_isSoundNow 84 = .ok (.goto (-61), 3) := by decide +kernel
theorem dX4_isSoundNow_87 : decode cX4_isSoundNow 87 = .ok (.iinc 2 1, 3) := by decide +kernel
theorem dX4_isSoundNow_90 : decode cX4_isSoundNow 90 = .ok (.goto (-86), 3) := by decide +kernel
theorem dX4_isSoundNow_93 : decode cX4_isSoundNow 93 = .ok (.iload_n 1, 1) := by decide +kernel
theorem dX4_isSoundNow_94 : decode cX4_isSoundNow 94 = .ok (.ireturn, 1) := by decide +kernel
theorem dX4_isSound_0 : decode cX4_isSound 0 = .ok (.aload_n 0, 1) := by decide +kernel
theorem dX4_isSound_1 : decode cX4_isSound 1 = .ok (.iconst 0, 1) := by decide +kernel
theorem dX4_isSound_2 : decode cX4_isSound 2 = .ok (.putfield 26, 3) := by decide +kernel
theorem dX4_isSound_5 : decode cX4_isSound 5 = .ok (.aload_n 0, 1) := by decide +kernel
theorem dX4_isSound_6 : decode cX4_isSound 6 = .ok (.invokevirtual 261, 3) := by decide +kernel
theorem dX4_isSound_9 : decode cX4_isSound 9 = .ok (.ireturn, 1) := by decide +kernel
theorem dX4_add_0 : decode cX4_add 0 = .ok (.lload_n 0, 1) := by decide +kernel
theorem dX4_add_1 : decode cX4_add 1 = .ok (.ldc2_w 264, 3) := by decide +kernel
theorem dX4_add_4 : decode cX4_add 4 = .ok (.lmul, 1) := by decide +kernel
theorem dX4_add_5 : decode cX4_add 5 = .ok (.lload_n 2, 1) := by decide +kernel
theorem dX4_add_6 : decode cX4_add 6 = .ok (.ladd, 1) := by decide +kernel
theorem dX4_add_7 : decode cX4_add 7 = .ok (.lreturn, 1) := by decide +kernel
theorem dX4_ofCards_0 : decode cX4_ofCards 0 = .ok (.lload_n 1, 1) := by decide +kernel
theorem dX4_ofCards_1 : decode cX4_ofCards 1 = .ok (.lstore_n 3, 1) := by decide +kernel
theorem dX4_ofCards_2 : decode cX4_ofCards 2 = .ok (.iconst 0, 1) := by decide +kernel
theorem dX4_ofCards_3 : decode cX4_ofCards 3 = .ok (.istore 5, 2) := by decide +kernel
theorem dX4_ofCards_5 : decode cX4_ofCards 5 = .ok (.iload 5, 2) := by decide +kernel
theorem dX4_ofCards_7 : decode cX4_ofCards 7 = .ok (.iconst 4, 1) := by decide +kernel
theorem dX4_ofCards_8 : decode cX4_ofCards 8 = .ok (.if_icmp .ge 140, 3) := by decide +kernel
theorem dX4_ofCards_11 : decode cX4_ofCards 11 = .ok (.iconst 0, 1) := by decide +kernel
theorem dX4_ofCards_12 : decode cX4_ofCards 12 = .ok (.istore 6, 2) := by decide +kernel
theorem dX4_ofCards_14 : decode cX4_ofCards 14 = .ok (.iload 6, 2) := by decide +kernel
theorem dX4_ofCards_16 : decode cX4_ofCards 16 = .ok (.iconst 3, 1) := by decide +kernel
theorem dX4_ofCards_17 : decode cX4_ofCards 17 = .ok (.if_icmp .ge 25, 3) := by decide +kernel
theorem dX4_ofCards_20 : decode cX4_ofCards 20 = .ok (.lload_n 3, 1) := by decide +kernel
theorem dX4_ofCards_21 : decode cX4_ofCards 21 = .ok (.aload_n 0, 1) := by decide +kernel
theorem dX4_ofCards_22 : decode cX4_ofCards 22 = .ok (.getfield 11, 3) := by decide +kernel
theorem dX4_ofCards_25 : decode cX4_ofCards 25 = .ok (.iload 5, 2) := by decide +kernel
theorem dX4_ofCards_27 : decode cX4_ofCards 27 = .ok (.aaload, 1) := by decide +kernel
theorem dX4_ofCards_28 : decode cX4_ofCards 28 = .ok (.iload 6, 2) := by decide +kernel
theorem dX4_ofCards_30 : decode cX4_ofCards 30 = .ok (.iaload, 1) := by decide +kernel
theorem dX4_ofCards_31 : decode cX4_ofCards 31 = .ok (.i2l, 1) := by decide +kernel
theorem dX4_ofCards_32 : decode cX4_ofCards 32 = .ok (.invokestatic 266, 3) := by decide +kernel
theorem dX4_ofCards_35 : decode cX4_ofCards 35 = .ok (.lstore_n 3, 1) := by decide +kernel
theorem dX4_ofCards_36 : decode cX4_ofCards 36 = .ok (.iinc 6 1, 3) := by decide +kernel
theorem dX4_ofCards_39 : decode cX4_ofCards 39 = .ok (.goto (-25), 3) := by decide +kernel
theorem dX4_ofCards_42 : decode cX4_ofCards 42 = .ok (.lload_n 3, 1) := by decide +kernel
theorem dX4_ofCards_43 : decode cX4_ofCards 43 = .ok (.aload_n 0, 1) := by decide +kernel
theorem dX4_ofCards_44 : decode cX4_ofCards 44 = .ok (.getfield 11, 3) := by decide +kernel
theorem dX4_ofCards_47 : decode cX4_ofCards 47 = .ok (.iload 5, 2) := by decide +kernel
theorem dX4_ofCards_49 : decode cX4_ofCards 49 = .ok (.aaload, 1) := by decide +kernel
theorem dX4_ofCards_50 : decode cX4_ofCards 50 = .ok (.invokestatic 43, 3) := by decide +kernel
theorem dX4_ofCards_53 : decode cX4_ofCards 53 = .ok (.invokestatic 266, 3) := by decide +kernel
theorem dX4_ofCards_56 : decode cX4_ofCards 56 = .ok (.aload_n 0, 1) := by decide +kernel
theorem dX4_ofCards_57 : decode cX4_ofCards 57 = .ok (.iload 5, 2) := by decide +kernel
theorem dX4_ofCards_59 : decode cX4_ofCards 59 = .ok (.invokevirtual 156, 3) := by decide +kernel
theorem dX4_ofCards_62 : decode cX4_ofCards 62 = .ok (.invokestatic 91, 3) := by decide +kernel
theorem dX4_ofCards_65 : decode cX4_ofCards 65 = .ok (.i2l, 1) := by decide +kernel
theorem dX4_ofCards_66 : decode cX4_ofCards 66 = .ok (.invokestatic 266, 3) := by decide +kernel
theorem dX4_ofCards_69 : decode cX4_ofCards 69 = .ok (.aload_n 0, 1) := by decide +kernel
theorem dX4_ofCards_70 : decode cX4_ofCards 70 = .ok (.iload 5, 2) := by decide +kernel
theorem dX4_ofCards_72 : decode cX4_ofCards 72 = .ok (.invokevirtual 159, 3) := by decide +kernel
theorem dX4_ofCards_75 : decode cX4_ofCards 75 = .ok (.invokestatic 91, 3) := by decide +kernel
theorem dX4_ofCards_78 : decode cX4_ofCards 78 = .ok (.i2l, 1) := by decide +kernel
theorem dX4_ofCards_79 : decode cX4_ofCards 79 = .ok (.invokestatic 266, 3) := by decide +kernel
theorem dX4_ofCards_82 : decode cX4_ofCards 82 = .ok (.lstore_n 3, 1) := by decide +kernel
theorem dX4_ofCards_83 : decode cX4_ofCards 83 = .ok (.lload_n 3, 1) := by decide +kernel
theorem dX4_ofCards_84 : decode cX4_ofCards 84 = .ok (.aload_n 0, 1) := by decide +kernel
theorem dX4_ofCards_85 : decode cX4_ofCards 85 = .ok (.getfield 11, 3) := by decide +kernel
theorem dX4_ofCards_88 : decode cX4_ofCards 88 = .ok (.iload 5, 2) := by decide +kernel
theorem dX4_ofCards_90 : decode cX4_ofCards 90 = .ok (.aaload, 1) := by decide +kernel
theorem dX4_ofCards_91 : decode cX4_ofCards 91 = .ok (.invokestatic 145, 3) := by decide +kernel
theorem dX4_ofCards_94 : decode cX4_ofCards 94 = .ok (.invokevirtual 269, 3) := by decide +kernel
theorem dX4_ofCards_97 : decode cX4_ofCards 97 = .ok (.i2l, 1) := by decide +kernel
theorem dX4_ofCards_98 : decode cX4_ofCards 98 = .ok (.invokestatic 266, 3) := by decide +kernel
theorem dX4_ofCards_101 : decode cX4_ofCards 101 = .ok (.aload_n 0, 1) := by decide +kernel
theorem dX4_ofCards_102 : decode cX4_ofCards 102 = .ok (.getfield 11, 3) := by decide +kernel
theorem dX4_ofCards_105 : decode cX4_ofCards 105 = .ok (.iload 5, 2) := by decide +kernel
theorem dX4_ofCards_107 : decode cX4_ofCards 107 = .ok (.aaload, 1) := by decide +kernel
theorem dX4_ofCards_108 : decode cX4_ofCards 108 = .ok (.invokestatic 125, 3) := by decide +kernel
theorem dX4_ofCards_111 : decode cX4_ofCards 111 = .ok (.invokestatic 145, 3) := by decide +kernel
theorem dX4_ofCards_114 : decode cX4_ofCards 114 = .ok (.invokevirtual 269, 3) := by decide +kernel
theorem dX4_ofCards_117 : decode cX4_ofCards 117 = .ok (.i2l, 1) := by decide +kernel
theorem dX4_ofCards_118 : decode cX4_ofCards 118 = .ok (.invokestatic 266, 3) := by decide +kernel
theorem dX4_ofCards_121 : decode cX4_ofCards 121 = .ok (.aload_n 0, 1) := by decide +kernel
theorem dX4_ofCards_122 : decode cX4_ofCards 122 = .ok (.getfield 11, 3) := by decide +kernel
theorem dX4_ofCards_125 : decode cX4_ofCards 125 = .ok (.iload 5, 2) := by decide +kernel
theorem dX4_ofCards_127 : decode cX4_ofCards 127 = .ok (.aaload, 1) := by decide +kernel
theorem dX4_ofCards_128 : decode cX4_ofCards 128 = .ok (.invokestatic 121, 3) := by decide +kernel
theorem dX4_ofCards_131 : decode cX4_ofCards 131 = .ok (.invokestatic 145, 3) := by decide +kernel
theorem dX4_ofCards_134 : decode cX4_ofCards 134 = .ok (.invokevirtual 269, 3) := by decide +kernel
theorem dX4_ofCards_137 : decode cX4_ofCards 137 = .ok (.i2l, 1) := by decide +kernel
theorem dX4_ofCards_138 : decode cX4_ofCards 138 = .ok (.invokestatic 266, 3) := by decide +kernel
theorem dX4_ofCards_141 : decode cX4_ofCards 141 = .ok (.lstore_n 3, 1) := by decide +kernel
theorem dX4_ofCards_142 : decode cX4_ofCards 142 = .ok (.iinc 5 1, 3) := by decide +kernel
theorem dX4_ofCards_145 : decode cX4_ofCards 145 = .ok (.goto (-140), 3) := by decide +kernel
theorem dX4_ofCards_148 : decode cX4_ofCards 148 = .ok (.iconst 0, 1) := by decide +kernel
theorem dX4_ofCards_149 : decode cX4_ofCards 149 = .ok (.istore 5, 2) := by decide +kernel
theorem dX4_ofCards_151 : decode cX4_ofCards 151 = .ok (.iload 5, 2) := by decide +kernel
theorem dX4_ofCards_153 : decode cX4_ofCards 153 = .ok (.iconst 4, 1) := by decide +kernel
theorem dX4_ofCards_154 : decode cX4_ofCards 154 = .ok (.if_icmp .ge 74, 3) := by decide +kernel
theorem dX4_ofCards_157 : decode cX4_ofCards 157 = .ok (.iconst 0, 1) := by decide +kernel
theorem dX4_ofCards_158 : decode cX4_ofCards 158 = .ok (.istore 6, 2) := by decide +kernel
theorem dX4_ofCards_160 : decode cX4_ofCards 160 = .ok (.iload 6, 2) := by decide +kernel
theorem dX4_ofCards_162 : decode cX4_ofCards 162 = .ok (.iconst 4, 1) := by decide +kernel
theorem dX4_ofCards_163 : decode cX4_ofCards 163 = .ok (.if_icmp .ge 59, 3) := by decide +kernel
theorem dX4_ofCards_166 : decode cX4_ofCards 166 = .ok (.lload_n 3, 1) := by decide +kernel
theorem dX4_ofCards_167 : decode cX4_ofCards 167 = .ok (.aload_n 0, 1) := by decide +kernel
theorem dX4_ofCards_168 : decode cX4_ofCards 168 = .ok (.getfield 11, 3) := by decide +kernel
theorem dX4_ofCards_171 : decode cX4_ofCards 171 = .ok (.iload 5, 2) := by decide +kernel
theorem dX4_ofCards_173 : decode cX4_ofCards 173 = .ok (.aaload, 1) := by decide +kernel
theorem dX4_ofCards_174 : decode cX4_ofCards 174 = .ok (.aload_n 0, 1) := by decide +kernel
theorem dX4_ofCards_175 : decode cX4_ofCards 175 = .ok (.getfield 11, 3) := by decide +kernel
theorem dX4_ofCards_178 : decode cX4_ofCards 178 = .ok (.iload 6, 2) := by decide +kernel
theorem dX4_ofCards_180 : decode cX4_ofCards 180 = .ok (.aaload, 1) := by decide +kernel
theorem dX4_ofCards_181 : decode cX4_ofCards 181 = .ok (.invokestatic 87, 3) := by decide +kernel
theorem dX4_ofCards_184 : decode cX4_ofCards 184 = .ok (.invokestatic 91, 3) := by decide +kernel
theorem dX4_ofCards_187 : decode cX4_ofCards 187 = .ok (.i2l, 1) := by decide +kernel
theorem dX4_ofCards_188 : decode cX4_ofCards 188 = .ok (.invokestatic 266, 3) := by decide +kernel
theorem dX4_ofCards_191 : decode cX4_ofCards 191 = .ok (.aload_n 0, 1) := by decide +kernel
theorem dX4_ofCards_192 : decode cX4_ofCards 192 = .ok (.getfield 11, 3) := by decide +kernel
theorem dX4_ofCards_195 : decode cX4_ofCards 195 = .ok (.iload 5, 2) := by decide +kernel
theorem dX4_ofCards_197 : decode cX4_ofCards 197 = .ok (.aaload, 1) := by decide +kernel
theorem dX4_ofCards_198 : decode cX4_ofCards 198 = .ok (.aload_n 0, 1) := by decide +kernel
theorem dX4_ofCards_199 : decode cX4_ofCards 199 = .ok (.getfield 11, 3) := by decide +kernel
theorem dX4_ofCards_202 : decode cX4_ofCards 202 = .ok (.iload 6, 2) := by decide +kernel
theorem dX4_ofCards_204 : decode cX4_ofCards 204 = .ok (.aaload, 1) := by decide +kernel
theorem dX4_ofCards_205 : decode cX4_ofCards 205 = .ok (.invokestatic 162, 3) := by decide +kernel
theorem dX4_ofCards_208 : decode cX4_ofCards 208 = .ok (.invokestatic 91, 3) := by decide +kernel
theorem dX4_ofCards_211 : decode cX4_ofCards 211 = .ok (.i2l, 1) := by decide +kernel
theorem dX4_ofCards_212 : decode cX4_ofCards 212 = .ok (.invokestatic 266, 3) := by decide +kernel
theorem dX4_ofCards_215 : decode cX4_ofCards 215 = .ok (.lstore_n 3, 1) := by decide +kernel
theorem dX4_ofCards_216 : decode cX4_ofCards 216 = .ok (.iinc 6 1, 3) := by decide +kernel
theorem dX4_ofCards_219 : decode cX4_ofCards 219 = .ok (.goto (-59), 3) := by decide +kernel
theorem dX4_ofCards_222 : decode cX4_ofCards 222 = .ok (.iinc 5 1, 3) := by decide +kernel
theorem dX4_ofCards_225 : decode cX4_ofCards 225 = .ok (.goto (-74), 3) := by decide +kernel
theorem dX4_ofCards_228 : decode cX4_ofCards 228 = .ok (.iconst 0, 1) := by decide +kernel
theorem dX4_ofCards_229 : decode cX4_ofCards 229 = .ok (.istore 5, 2) := by decide +kernel
theorem dX4_ofCards_231 : decode cX4_ofCards 231 = .ok (.iload 5, 2) := by decide +kernel
theorem dX4_ofCards_233 : decode cX4_ofCards 233 = .ok (.bipush 8, 2) := by decide +kernel
theorem dX4_ofCards_235 : decode cX4_ofCards 235 = .ok (.if_icmp .ge 24, 3) := by decide +kernel
theorem dX4_ofCards_238 : decode cX4_ofCards 238 = .ok (.lload_n 3, 1) := by decide +kernel
theorem dX4_ofCards_239 : decode cX4_ofCards 239 = .ok (.aload_n 0, 1) := by decide +kernel
theorem dX4_ofCards_240 : decode cX4_ofCards 240 = .ok (.iload 5, 2) := by decide +kernel
theorem dX4_ofCards_242 : decode cX4_ofCards 242 = .ok (.invokevirtual 149, 3) := by decide +kernel
theorem dX4_ofCards_245 : decode cX4_ofCards 245 = .ok (.invokevirtual 269, 3) := by decide +kernel
theorem dX4_ofCards_248 : decode cX4_ofCards 248 = .ok (.i2l, 1) := by decide +kernel
theorem dX4_ofCards_249 : decode cX4_ofCards 249 = .ok (.invokestatic 266, 3) := by decide +kernel
theorem dX4_ofCards_252 : decode cX4_ofCards 252 = .ok (.lstore_n 3, 1) := by decide +kernel
theorem dX4_ofCards_253 : decode cX4_ofCards 253 = .ok (.iinc 5 1, 3) := by decide +kernel
theorem dX4_ofCards_256 : decode cX4_ofCards 256 = .ok (.goto (-25), 3) := by decide +kernel
theorem dX4_ofCards_259 : decode cX4_ofCards 259 = .ok (.lload_n 3, 1) := by decide +kernel
theorem dX4_ofCards_260 : decode cX4_ofCards 260 = .ok (.lreturn, 1) := by decide +kernel
theorem dX4_ofDates_0 : decode cX4_ofDates 0 = .ok (.lload_n 1, 1) := by decide +kernel
theorem dX4_ofDates_1 : decode cX4_ofDates 1 = .ok (.lstore_n 3, 1) := by decide +kernel
theorem dX4_ofDates_2 : decode cX4_ofDates 2 = .ok (.iconst 0, 1) := by decide +kernel
theorem dX4_ofDates_3 : decode cX4_ofDates 3 = .ok (.istore 5, 2) := by decide +kernel
theorem dX4_ofDates_5 : decode cX4_ofDates 5 = .ok (.iload 5, 2) := by decide +kernel
theorem dX4_ofDates_7 : decode cX4_ofDates 7 = .ok (.iconst 4, 1) := by decide +kernel
theorem dX4_ofDates_8 : decode cX4_ofDates 8 = .ok (.if_icmp .ge 87, 3) := by decide +kernel
theorem dX4_ofDates_11 : decode cX4_ofDates 11 = .ok (.iconst 0, 1) := by decide +kernel
theorem dX4_ofDates_12 : decode cX4_ofDates 12 = .ok (.istore 6, 2) := by decide +kernel
theorem dX4_ofDates_14 : decode cX4_ofDates 14 = .ok (.iload 6, 2) := by decide +kernel
theorem dX4_ofDates_16 : decode cX4_ofDates 16 = .ok (.iconst 4, 1) := by decide +kernel
theorem dX4_ofDates_17 : decode cX4_ofDates 17 = .ok (.if_icmp .ge 23, 3) := by decide +kernel
theorem dX4_ofDates_20 : decode cX4_ofDates 20 = .ok (.lload_n 3, 1) := by decide +kernel
theorem dX4_ofDates_21 : decode cX4_ofDates 21 = .ok (.aload_n 0, 1) := by decide +kernel
theorem dX4_ofDates_22 : decode cX4_ofDates 22 = .ok (.iload 5, 2) := by decide +kernel
theorem dX4_ofDates_24 : decode cX4_ofDates 24 = .ok (.iload 6, 2) := by decide +kernel
theorem dX4_ofDates_26 : decode cX4_ofDates 26 = .ok (.invokevirtual 229, 3) := by decide +kernel
theorem dX4_ofDates_29 : decode cX4_ofDates 29 = .ok (.i2l, 1) := by decide +kernel
theorem dX4_ofDates_30 : decode cX4_ofDates 30 = .ok (.invokestatic 266, 3) := by decide +kernel
theorem dX4_ofDates_33 : decode cX4_ofDates 33 = .ok (.lstore_n 3, 1) := by decide +kernel
theorem dX4_ofDates_34 : decode cX4_ofDates 34 = .ok (.iinc 6 1, 3) := by decide +kernel
theorem dX4_ofDates_37 : decode cX4_ofDates 37 = .ok (.goto (-23), 3) := by decide +kernel
theorem dX4_ofDates_40 : decode cX4_ofDates 40 = .ok (.iconst 0, 1) := by decide +kernel
theorem dX4_ofDates_41 : decode cX4_ofDates 41 = .ok (.istore 6, 2) := by decide +kernel
theorem dX4_ofDates_43 : decode cX4_ofDates 43 = .ok (.iload 6, 2) := by decide +kernel
theorem dX4_ofDates_45 : decode cX4_ofDates 45 = .ok (.iconst 4, 1) := by decide +kernel
theorem dX4_ofDates_46 : decode cX4_ofDates 46 = .ok (.if_icmp .ge 43, 3) := by decide +kernel
theorem dX4_ofDates_49 : decode cX4_ofDates 49 = .ok (.lload_n 3, 1) := by decide +kernel
theorem dX4_ofDates_50 : decode cX4_ofDates 50 = .ok (.aload_n 0, 1) := by decide +kernel
theorem dX4_ofDates_51 : decode cX4_ofDates 51 = .ok (.iload 5, 2) := by decide +kernel
theorem dX4_ofDates_53 : decode cX4_ofDates 53 = .ok (.iload 6, 2) := by decide +kernel
theorem dX4_ofDates_55 : decode cX4_ofDates 55 = .ok (.iconst 0, 1) := by decide +kernel
theorem dX4_ofDates_56 : decode cX4_ofDates 56 = .ok (.invokevirtual 235, 3) := by decide +kernel
theorem dX4_ofDates_59 : decode cX4_ofDates 59 = .ok (.invokevirtual 269, 3) := by decide +kernel
theorem dX4_ofDates_62 : decode cX4_ofDates 62 = .ok (.i2l, 1) := by decide +kernel
theorem dX4_ofDates_63 : decode cX4_ofDates 63 = .ok (.invokestatic 266, 3) := by decide +kernel
theorem dX4_ofDates_66 : decode cX4_ofDates 66 = .ok (.aload_n 0, 1) := by decide +kernel
theorem dX4_ofDates_67 : decode cX4_ofDates 67 = .ok (.iload 5, 2) := by decide +kernel
theorem dX4_ofDates_69 : decode cX4_ofDates 69 = .ok (.iload 6, 2) := by decide +kernel
theorem dX4_ofDates_71 : decode cX4_ofDates 71 = .ok (.iconst 1, 1) := by decide +kernel
theorem dX4_ofDates_72 : decode cX4_ofDates 72 = .ok (.invokevirtual 235, 3) := by decide +kernel
theorem dX4_ofDates_75 : decode cX4_ofDates 75 = .ok (.invokevirtual 269, 3) := by decide +kernel
theorem dX4_ofDates_78 : decode cX4_ofDates 78 = .ok (.i2l, 1) := by decide +kernel
theorem dX4_ofDates_79 : decode cX4_ofDates 79 = .ok (.invokestatic 266, 3) := by decide +kernel
theorem dX4_ofDates_82 : decode cX4_ofDates 82 = .ok (.lstore_n 3, 1) := by decide +kernel
theorem dX4_ofDates_83 : decode cX4_ofDates 83 = .ok (.iinc 6 1, 3) := by decide +kernel
theorem dX4_ofDates_86 : decode cX4_ofDates 86 = .ok (.goto (-43), 3) := by decide +kernel
theorem dX4_ofDates_89 : decode cX4_ofDates 89 = .ok (.iinc 5 1, 3) := by decide +kernel
theorem dX4_ofDates_92 : decode cX4_ofDates 92 = .ok (.goto (-87), 3) := by decide +kernel
theorem dX4_ofDates_95 : decode cX4_ofDates 95 = .ok (.iconst 0, 1) := by decide +kernel
theorem dX4_ofDates_96 : decode cX4_ofDates 96 = .ok (.istore 5, 2) := by decide +kernel
theorem dX4_ofDates_98 : decode cX4_ofDates 98 = .ok (.iload 5, 2) := by decide +kernel
theorem dX4_ofDates_100 : decode cX4_ofDates 100 = .ok (.iconst 4, 1) := by decide +kernel
theorem dX4_ofDates_101 : decode cX4_ofDates 101 = .ok (.if_icmp .ge 65, 3) := by decide +kernel
theorem dX4_ofDates_104 : decode cX4_ofDates 104 = .ok (.iconst 0, 1) := by decide +kernel
theorem dX4_ofDates_105 : decode cX4_ofDates 105 = .ok (.istore 6, 2) := by decide +kernel
theorem dX4_ofDates_107 : decode cX4_ofDates 107 = .ok (.iload 6, 2) := by decide +kernel
theorem dX4_ofDates_109 : decode cX4_ofDates 109 = .ok (.iconst 4, 1) := by decide +kernel
theorem dX4_ofDates_110 : decode cX4_ofDates 110 = .ok (.if_icmp .ge 50, 3) := by decide +kernel
theorem dX4_ofDates_113 : decode cX4_ofDates 113 = .ok (.lload_n 3, 1) := by decide +kernel
theorem dX4_ofDates_114 : decode cX4_ofDates 114 = .ok (.aload_n 0, 1) := by decide +kernel
theorem dX4_ofDates_115 : decode cX4_ofDates 115 = .ok (.iload 5, 2) := by decide +kernel
theorem dX4_ofDates_117 : decode cX4_ofDates 117 = .ok (.iload 6, 2) := by decide +kernel
theorem dX4_ofDates_119 : decode cX4_ofDates 119 = .ok (.invokevirtual 243, 3) := by decide +kernel
theorem dX4_ofDates_122 : decode cX4_ofDates 122 = .ok (.i2l, 1) := by decide +kernel
theorem dX4_ofDates_123 : decode cX4_ofDates 123 = .ok (.invokestatic 266, 3) := by decide +kernel
theorem dX4_ofDates_126 : decode cX4_ofDates 126 = .ok (.aload_n 0, 1) := by decide +kernel
theorem dX4_ofDates_127 : decode cX4_ofDates 127 = .ok (.getfield 23, 3) := by decide +kernel
theorem dX4_ofDates_130 : decode cX4_ofDates 130 = .ok (.iload 5, 2) := by decide +kernel
theorem dX4_ofDates_132 : decode cX4_ofDates 132 = .ok (.aaload, 1) := by decide +kernel
theorem dX4_ofDates_133 : decode cX4_ofDates 133 = .ok (.aload_n 0, 1) := by decide +kernel
theorem dX4_ofDates_134 : decode cX4_ofDates 134 = .ok (.getfield 23, 3) := by decide +kernel
theorem dX4_ofDates_137 : decode cX4_ofDates 137 = .ok (.iload 6, 2) := by decide +kernel
theorem dX4_ofDates_139 : decode cX4_ofDates 139 = .ok (.aaload, 1) := by decide +kernel
theorem dX4_ofDates_140 : decode cX4_ofDates 140 = .ok (.invokestatic 219, 3) := by decide +kernel
theorem dX4_ofDates_143 : decode cX4_ofDates 143 = .ok (.invokestatic 145, 3) := by decide +kernel
theorem dX4_ofDates_146 : decode cX4_ofDates 146 = .ok (.invokevirtual 269, 3) := by decide +kernel
theorem dX4_ofDates_149 : decode cX4_ofDates 149 = .ok (.i2l, 1) := by decide +kernel
theorem dX4_ofDates_150 : decode cX4_ofDates 150 = .ok (.invokestatic 266, 3) := by decide +kernel
theorem dX4_ofDates_153 : decode cX4_ofDates 153 = .ok (.lstore_n 3, 1) := by decide +kernel
theorem dX4_ofDates_154 : decode cX4_ofDates 154 = .ok (.iinc 6 1, 3) := by decide +kernel
theorem dX4_ofDates_157 : decode cX4_ofDates 157 = .ok (.goto (-50), 3) := by decide +kernel
theorem dX4_ofDates_160 : decode cX4_ofDates 160 = .ok (.iinc 5 1, 3) := by decide +kernel
theorem dX4_ofDates_163 : decode cX4_ofDates 163 = .ok (.goto (-65), 3) := by decide +kernel
theorem dX4_ofDates_166 : decode cX4_ofDates 166 = .ok (.lload_n 3, 1) := by decide +kernel
theorem dX4_ofDates_167 : decode cX4_ofDates 167 = .ok (.lreturn, 1) := by decide +kernel
theorem dX4_digest_0 : decode cX4_digest 0 = .ok (.aload_n 0, 1) := by decide +kernel
theorem dX4_digest_1 : decode cX4_digest 1 = .ok (.iconst 0, 1) := by decide +kernel
theorem dX4_digest_2 : decode cX4_digest 2 = .ok (.putfield 26, 3) := by decide +kernel
theorem dX4_digest_5 : decode cX4_digest 5 = .ok (.aload_n 0, 1) := by decide +kernel
theorem dX4_digest_6 : decode cX4_digest 6 = .ok (.aload_n 0, 1) := by decide +kernel
theorem dX4_digest_7 : decode cX4_digest 7 = .ok (.ldc2_w 273, 3) := by decide +kernel
theorem dX4_digest_10 : decode cX4_digest 10 = .ok (.invokevirtual 275, 3) := by decide +kernel
theorem dX4_digest_13 : decode cX4_digest 13 = .ok (.invokevirtual 279, 3) := by decide +kernel
theorem dX4_digest_16 : decode cX4_digest 16 = .ok (.lstore_n 1, 1) := by decide +kernel
theorem dX4_digest_17 : decode cX4_digest 17 = .ok (.iconst 0, 1) := by decide +kernel
theorem dX4_digest_18 : decode cX4_digest 18 = .ok (.istore_n 3, 1) := by decide +kernel
theorem dX4_digest_19 : decode cX4_digest 19 = .ok (.iload_n 3, 1) := by decide +kernel
theorem dX4_digest_20 : decode cX4_digest 20 = .ok (.iconst 5, 1) := by decide +kernel
theorem dX4_digest_21 : decode cX4_digest 21 = .ok (.if_icmp .ge 20, 3) := by decide +kernel
theorem dX4_digest_24 : decode cX4_digest 24 = .ok (.lload_n 1, 1) := by decide +kernel
theorem dX4_digest_25 : decode cX4_digest 25 = .ok (.aload_n 0, 1) := by decide +kernel
theorem dX4_digest_26 : decode cX4_digest 26 = .ok (.iload_n 3, 1) := by decide +kernel
theorem dX4_digest_27 : decode cX4_digest 27 = .ok (.invokevirtual 251, 3) := by decide +kernel
theorem dX4_digest_30 : decode cX4_digest 30 = .ok (.i2l, 1) := by decide +kernel
theorem dX4_digest_31 : decode cX4_digest 31 = .ok (.invokestatic 266, 3) := by decide +kernel
theorem dX4_digest_34 : decode cX4_digest 34 = .ok (.lstore_n 1, 1) := by decide +kernel
theorem dX4_digest_35 : decode cX4_digest 35 = .ok (.iinc 3 1, 3) := by decide +kernel
theorem dX4_digest_38 : decode cX4_digest 38 = .ok (.goto (-19), 3) := by decide +kernel
theorem dX4_digest_41 : decode cX4_digest 41 = .ok (.lload_n 1, 1) := by decide +kernel
theorem dX4_digest_42 : decode cX4_digest 42 = .ok (.aload_n 0, 1) := by decide +kernel
theorem dX4_digest_43 : decode cX4_digest 43 = .ok (.invokevirtual 261, 3) := by decide +kernel
theorem dX4_digest_46 : decode cX4_digest 46 = .ok (.invokestatic 91, 3) := by decide +kernel
theorem dX4_digest_49 : decode cX4_digest 49 = .ok (.i2l, 1) := by decide +kernel
theorem dX4_digest_50 : decode cX4_digest 50 = .ok (.invokestatic 266, 3) := by decide +kernel
theorem dX4_digest_53 : decode cX4_digest 53 = .ok (.lreturn, 1) := by decide +kernel
theorem dJ5_init_d00df_0 : decode cJ5_init_d00df 0 = .ok (.aload_n 0, 1) := by decide +kernel
theorem dJ5_init_d00df_1 : decode cJ5_init_d00df 1 = .ok (.invokespecial 3, 3) := by decide +kernel
theorem dJ5_init_d00df_4 : decode cJ5_init_d00df 4 = .ok (.getstatic 18, 3) := by decide +kernel
theorem dJ5_init_d00df_7 : decode cJ5_init_d00df 7 = .ok (.ifCond .eq 18, 3) := by decide +kernel
theorem dJ5_init_d00df_10 : decode cJ5_init_d00df 10 = .ok (.aload_n 0, 1) := by decide +kernel
theorem dJ5_init_d00df_11 : decode cJ5_init_d00df 11 = .ok (.iload_n 1, 1) := by decide +kernel
theorem dJ5_init_d00df_12 : decode cJ5_init_d00df 12 = .ok (.newarray .byte, 2) := by decide +kernel
theorem dJ5_init_d00df_14 : decode cJ5_init_d00df 14 = .ok (.putfield 15, 3) := by decide +kernel
theorem dJ5_init_d00df_17 : decode cJ5_init_d00df 17 = .ok (.aload_n 0, 1) := by decide +kernel
theorem dJ5_init_d00df_18 : decode cJ5_init_d00df 18 = .ok (.iconst 0, 1) := by decide +kernel
theorem dJ5_init_d00df_19 : decode cJ5_init_d00df 19 = .ok (.putfield 22, 3) := by decide +kernel
theorem dJ5_init_d00df_22 : decode cJ5_init_d00df 22 = .ok (.goto 16, 3) := by decide +kernel
theorem dJ5_init_d00df_38 : decode cJ5_init_d00df 38 = .ok (.return_, 1) := by decide +kernel
theorem dJ5_length_8abf5_0 : decode cJ5_length_8abf5 0 = .ok (.aload_n 0, 1) := by decide +kernel
theorem dJ5_length_8abf5_1 : decode cJ5_length_8abf5 1 = .ok (.getfield 79, 3) := by decide +kernel
theorem dJ5_length_8abf5_4 : decode cJ5_length_8abf5 4 = .ok (.ireturn, 1) := by decide +kernel
theorem dJ5_ensureCapacityInternal_d00df_0 : decode cJ5_ensureCapacityInternal_d00df 0 = .ok (.aload_n 0, 1) := by decide +kernel
theorem dJ5_ensureCapacityInternal_d00df_1 : decode cJ5_ensureCapacityInternal_d00df 1 = .ok (.getfield 15, 3) := by decide +kernel
theorem dJ5_ensureCapacityInternal_d00df_4 : decode cJ5_ensureCapacityInternal_d00df 4 = .ok (.arraylength, 1) := by decide +kernel
theorem dJ5_ensureCapacityInternal_d00df_5 : decode cJ5_ensureCapacityInternal_d00df 5 = .ok (.aload_n 0, 1) := by decide +kernel
theorem dJ5_ensureCapacityInternal_d00df_6 : decode cJ5_ensureCapacityInternal_d00df 6 = .ok (.getfield 22, 3) := by decide +kernel
theorem dJ5_ensureCapacityInternal_d00df_9 : decode cJ5_ensureCapacityInternal_d00df 9 = .ok (.ishr, 1) := by decide +kernel
theorem dJ5_ensureCapacityInternal_d00df_10 : decode cJ5_ensureCapacityInternal_d00df 10 = .ok (.istore_n 2, 1) := by decide +kernel
theorem dJ5_ensureCapacityInternal_d00df_11 : decode cJ5_ensureCapacityInternal_d00df 11 = .ok (.iload_n 1, 1) := by decide +kernel
theorem dJ5_ensureCapacityInternal_d00df_12 : decode cJ5_ensureCapacityInternal_d00df 12 = .ok (.iload_n 2, 1) := by decide +kernel
theorem dJ5_ensureCapacityInternal_d00df_13 : decode cJ5_ensureCapacityInternal_d00df 13 = .ok (.isub, 1) := by decide +kernel
theorem dJ5_ensureCapacityInternal_d00df_14 : decode cJ5_ensureCapacityInternal_d00df 14 = .ok (.ifCond .le 24, 3) := by decide +kernel
theorem dJ5_ensureCapacityInternal_d00df_17 : decode cJ5_ensureCapacityInternal_d00df 17 = .ok (.aload_n 0, 1) := by decide +kernel
theorem dJ5_ensureCapacityInternal_d00df_18 : decode cJ5_ensureCapacityInternal_d00df 18 = .ok (.aload_n 0, 1) := by decide +kernel
theorem dJ5_ensureCapacityInternal_d00df_19 : decode cJ5_ensureCapacityInternal_d00df 19 = .ok (.getfield 15, 3) := by decide +kernel
theorem dJ5_ensureCapacityInternal_d00df_22 : decode cJ5_ensureCapacityInternal_d00df 22 = .ok (.aload_n 0, 1) := by decide +kernel
theorem dJ5_ensureCapacityInternal_d00df_23 : decode cJ5_ensureCapacityInternal_d00df 23 = .ok (.iload_n 1, 1) := by decide +kernel
theorem dJ5_ensureCapacityInternal_d00df_24 : decode cJ5_ensureCapacityInternal_d00df 24 = .ok (.invokevirtual 104, 3) := by decide +kernel
theorem dJ5_ensureCapacityInternal_d00df_27 : decode cJ5_ensureCapacityInternal_d00df 27 = .ok (.aload_n 0, 1) := by decide +kernel
theorem dJ5_ensureCapacityInternal_d00df_28 : decode cJ5_ensureCapacityInternal_d00df 28 = .ok (.getfield 22, 3) := by decide +kernel
theorem dJ5_ensureCapacityInternal_d00df_31 : decode cJ5_ensureCapacityInternal_d00df 31 = .ok (.ishl, 1) := by decide +kernel
theorem dJ5_ensureCapacityInternal_d00df_32 : decode cJ5_ensureCapacityInternal_d00df 32 = .ok (.invokestatic 108, 3) := by decide +kernel
theorem dJ5_ensureCapacityInternal_d00df_35 : decode cJ5_ensureCapacityInternal_d00df 35 = .ok (.putfield 15, 3) := by decide +kernel
theorem dJ5_ensureCapacityInternal_d00df_38 : decode cJ5_ensureCapacityInternal_d00df 38 = .ok (.return_, 1) := by decide +kernel
theorem dJ5_newCapacity_0f7a4_0 : decode cJ5_newCapacity_0f7a4 0 = .ok (.aload_n 0, 1) := by decide +kernel
theorem dJ5_newCapacity_0f7a4_1 : decode cJ5_newCapacity_0f7a4 1 = .ok (.getfield 15, 3) := by decide +kernel
theorem dJ5_newCapacity_0f7a4_4 : decode cJ5_newCapacity_0f7a4 4 = .ok (.arraylength, 1) := by decide +kernel
theorem dJ5_newCapacity_0f7a4_5 : decode cJ5_newCapacity_0f7a4 5 = .ok (.istore_n 2, 1) := by decide +kernel
theorem dJ5_newCapacity_0f7a4_6 : decode cJ5_newCapacity_0f7a4 6 = .ok (.iload_n 1, 1) := by decide +kernel
theorem dJ5_newCapacity_0f7a4_7 : decode cJ5_newCapacity_0f7a4 7 = .ok (.aload_n 0, 1) := by decide +kernel
theorem dJ5_newCapacity_0f7a4_8 : decode cJ5_newCapacity_0f7a4 8 = .ok (.getfield 22, 3) := by decide +kernel
theorem dJ5_newCapacity_0f7a4_11 : decode cJ5_newCapacity_0f7a4 11 = .ok (.ishl, 1) := by decide +kernel
theorem dJ5_newCapacity_0f7a4_12 : decode cJ5_newCapacity_0f7a4 12 = .ok (.istore_n 3, 1) := by decide +kernel
theorem dJ5_newCapacity_0f7a4_13 : decode cJ5_newCapacity_0f7a4 13 = .ok (.iload_n 3, 1) := by decide +kernel
theorem dJ5_newCapacity_0f7a4_14 : decode cJ5_newCapacity_0f7a4 14 = .ok (.iload_n 2, 1) := by decide +kernel
theorem dJ5_newCapacity_0f7a4_15 : decode cJ5_newCapacity_0f7a4 15 = .ok (.isub, 1) := by decide +kernel
theorem dJ5_newCapacity_0f7a4_16 : decode cJ5_newCapacity_0f7a4 16 = .ok (.istore 4, 2) := by decide +kernel
theorem dJ5_newCapacity_0f7a4_18 : decode cJ5_newCapacity_0f7a4 18 = .ok (.iload_n 2, 1) := by decide +kernel
theorem dJ5_newCapacity_0f7a4_19 : decode cJ5_newCapacity_0f7a4 19 = .ok (.iload 4, 2) := by decide +kernel
theorem dJ5_newCapacity_0f7a4_21 : decode cJ5_newCapacity_0f7a4 21 = .ok (.iload_n 2, 1) := by decide +kernel
theorem dJ5_newCapacity_0f7a4_22 : decode cJ5_newCapacity_0f7a4 22 = .ok (.iconst 2, 1) := by decide +kernel
theorem dJ5_newCapacity_0f7a4_23 : decode cJ5_newCapacity_0f7a4 23 = .ok (.aload_n 0, 1) := by decide +kernel
theorem dJ5_newCapacity_0f7a4_24 : decode cJ5_newCapacity_0f7a4 24 = .ok (.getfield 22, 3) := by decide +kernel
theorem dJ5_newCapacity_0f7a4_27 : decode cJ5_newCapacity_0f7a4 27 = .ok (.ishl, 1) := by decide +kernel
theorem dJ5_newCapacity_0f7a4_28 : decode cJ5_newCapacity_0f7a4 28 = .ok (.iadd, 1) := by decide +kernel
theorem dJ5_newCapacity_0f7a4_29 : decode cJ5_newCapacity_0f7a4 29 = .ok (.invokestatic 114, 3) := by decide +kernel
theorem dJ5_newCapacity_0f7a4_32 : decode cJ5_newCapacity_0f7a4 32 = .ok (.istore 5, 2) := by decide +kernel
theorem dJ5_newCapacity_0f7a4_34 : decode cJ5_newCapacity_0f7a4 34 = .ok (.iload 5, 2) := by decide +kernel
theorem dJ5_newCapacity_0f7a4_36 : decode cJ5_newCapacity_0f7a4 36 = .ok (.ldc 39, 2) := by decide +kernel
theorem dJ5_newCapacity_0f7a4_38 : decode cJ5_newCapacity_0f7a4 38 = .ok (.if_icmp .ne 13, 3) := by decide +kernel
theorem dJ5_newCapacity_0f7a4_51 : decode cJ5_newCapacity_0f7a4 51 = .ok (.iload 5, 2) := by decide +kernel
theorem dJ5_newCapacity_0f7a4_53 : decode cJ5_newCapacity_0f7a4 53 = .ok (.aload_n 0, 1) := by decide +kernel
theorem dJ5_newCapacity_0f7a4_54 : decode cJ5_newCapacity_0f7a4 54 = .ok (.getfield 22, 3) := by decide +kernel
theorem dJ5_newCapacity_0f7a4_57 : decode cJ5_newCapacity_0f7a4 57 = .ok (.ishr, 1) := by decide +kernel
theorem dJ5_newCapacity_0f7a4_58 : decode cJ5_newCapacity_0f7a4 58 = .ok (.ireturn, 1) := by decide +kernel
theorem dJ5_append_cf1ce_0 : decode cJ5_append_cf1ce 0 = .ok (.aload_n 1, 1) := by decide +kernel
theorem dJ5_append_cf1ce_1 : decode cJ5_append_cf1ce 1 = .ok (.ifnonnull 8, 3) := by decide +kernel
theorem dJ5_append_cf1ce_9 : decode cJ5_append_cf1ce 9 = .ok (.aload_n 1, 1) := by decide +kernel
theorem dJ5_append_cf1ce_10 : decode cJ5_append_cf1ce 10 = .ok (.invokevirtual 32, 3) := by decide +kernel
theorem dJ5_append_cf1ce_13 : decode cJ5_append_cf1ce 13 = .ok (.istore_n 2, 1) := by decide +kernel
theorem dJ5_append_cf1ce_14 : decode cJ5_append_cf1ce 14 = .ok (.aload_n 0, 1) := by decide +kernel
theorem dJ5_append_cf1ce_15 : decode cJ5_append_cf1ce 15 = .ok (.aload_n 0, 1) := by decide +kernel
theorem dJ5_append_cf1ce_16 : decode cJ5_append_cf1ce 16 = .ok (.getfield 79, 3) := by decide +kernel
theorem dJ5_append_cf1ce_19 : decode cJ5_append_cf1ce 19 = .ok (.iload_n 2, 1) := by decide +kernel
theorem dJ5_append_cf1ce_20 : decode cJ5_append_cf1ce 20 = .ok (.iadd, 1) := by decide +kernel
theorem dJ5_append_cf1ce_21 : decode cJ5_append_cf1ce 21 = .ok (.invokevirtual 100, 3) := by decide +kernel
theorem dJ5_append_cf1ce_24 : decode cJ5_append_cf1ce 24 = .ok (.aload_n 0, 1) := by decide +kernel
theorem dJ5_append_cf1ce_25 : decode cJ5_append_cf1ce 25 = .ok (.aload_n 0, 1) := by decide +kernel
theorem dJ5_append_cf1ce_26 : decode cJ5_append_cf1ce 26 = .ok (.getfield 79, 3) := by decide +kernel
theorem dJ5_append_cf1ce_29 : decode cJ5_append_cf1ce 29 = .ok (.aload_n 1, 1) := by decide +kernel
theorem dJ5_append_cf1ce_30 : decode cJ5_append_cf1ce 30 = .ok (.invokevirtual 208, 3) := by decide +kernel
theorem dJ5_append_cf1ce_33 : decode cJ5_append_cf1ce 33 = .ok (.aload_n 0, 1) := by decide +kernel
theorem dJ5_append_cf1ce_34 : decode cJ5_append_cf1ce 34 = .ok (.dup, 1) := by decide +kernel
theorem dJ5_append_cf1ce_35 : decode cJ5_append_cf1ce 35 = .ok (.getfield 79, 3) := by decide +kernel
theorem dJ5_append_cf1ce_38 : decode cJ5_append_cf1ce 38 = .ok (.iload_n 2, 1) := by decide +kernel
theorem dJ5_append_cf1ce_39 : decode cJ5_append_cf1ce 39 = .ok (.iadd, 1) := by decide +kernel
theorem dJ5_append_cf1ce_40 : decode cJ5_append_cf1ce 40 = .ok (.putfield 79, 3) := by decide +kernel
theorem dJ5_append_cf1ce_43 : decode cJ5_append_cf1ce 43 = .ok (.aload_n 0, 1) := by decide +kernel
theorem dJ5_append_cf1ce_44 : decode cJ5_append_cf1ce 44 = .ok (.areturn, 1) := by decide +kernel
theorem dJ5_append_3fe6f_0 : decode cJ5_append_3fe6f 0 = .ok (.aload_n 0, 1) := by decide +kernel
theorem dJ5_append_3fe6f_1 : decode cJ5_append_3fe6f 1 = .ok (.aload_n 0, 1) := by decide +kernel
theorem dJ5_append_3fe6f_2 : decode cJ5_append_3fe6f 2 = .ok (.getfield 79, 3) := by decide +kernel
theorem dJ5_append_3fe6f_5 : decode cJ5_append_3fe6f 5 = .ok (.iconst 1, 1) := by decide +kernel
theorem dJ5_append_3fe6f_6 : decode cJ5_append_3fe6f 6 = .ok (.iadd, 1) := by decide +kernel
theorem dJ5_append_3fe6f_7 : decode cJ5_append_3fe6f 7 = .ok (.invokevirtual 100, 3) := by decide +kernel
theorem dJ5_append_3fe6f_10 : decode cJ5_append_3fe6f 10 = .ok (.aload_n 0, 1) := by decide +kernel
theorem dJ5_append_3fe6f_11 : decode cJ5_append_3fe6f 11 = .ok (.invokevirtual 83, 3) := by decide +kernel
theorem dJ5_append_3fe6f_14 : decode cJ5_append_3fe6f 14 = .ok (.ifCond .eq 31, 3) := by decide +kernel
theorem dJ5_append_3fe6f_17 : decode cJ5_append_3fe6f 17 = .ok (.iload_n 1, 1) := by decide +kernel
theorem dJ5_append_3fe6f_18 : decode cJ5_append_3fe6f 18 = .ok (.invokestatic 191, 3) := by decide +kernel
theorem dJ5_append_3fe6f_21 : decode cJ5_append_3fe6f 21 = .ok (.ifCond .eq 24, 3) := by decide +kernel
theorem dJ5_append_3fe6f_24 : decode cJ5_append_3fe6f 24 = .ok (.aload_n 0, 1) := by decide +kernel
theorem dJ5_append_3fe6f_25 : decode cJ5_append_3fe6f 25 = .ok (.getfield 15, 3) := by decide +kernel
theorem dJ5_append_3fe6f_28 : decode cJ5_append_3fe6f 28 = .ok (.aload_n 0, 1) := by decide +kernel
theorem dJ5_append_3fe6f_29 : decode cJ5_append_3fe6f 29 = .ok (.dup, 1) := by decide +kernel
theorem dJ5_append_3fe6f_30 : decode cJ5_append_3fe6f 30 = .ok (.getfield 79, 3) := by decide +kernel
theorem dJ5_append_3fe6f_33 : decode cJ5_append_3fe6f 33 = .ok (.dup_x1, 1) := by decide +kernel
theorem dJ5_append_3fe6f_34 : decode cJ5_append_3fe6f 34 = .ok (.iconst 1, 1) := by decide +kernel
theorem dJ5_append_3fe6f_35 : decode cJ5_append_3fe6f 35 = .ok (.iadd, 1) := by decide +kernel
theorem dJ5_append_3fe6f_36 : decode cJ5_append_3fe6f 36 = .ok (.putfield 79, 3) := by decide +kernel
theorem dJ5_append_3fe6f_39 : decode cJ5_append_3fe6f 39 = .ok (.iload_n 1, 1) := by decide +kernel
theorem dJ5_append_3fe6f_40 : decode cJ5_append_3fe6f 40 = .ok (.i2b, 1) := by decide +kernel
theorem dJ5_append_3fe6f_41 : decode cJ5_append_3fe6f 41 = .ok (.bastore, 1) := by decide +kernel
theorem dJ5_append_3fe6f_42 : decode cJ5_append_3fe6f 42 = .ok (.goto 33, 3) := by decide +kernel
theorem dJ5_append_3fe6f_75 : decode cJ5_append_3fe6f 75 = .ok (.aload_n 0, 1) := by decide +kernel
theorem dJ5_append_3fe6f_76 : decode cJ5_append_3fe6f 76 = .ok (.areturn, 1) := by decide +kernel
theorem dJ5_append_c97b9_0 : decode cJ5_append_c97b9 0 = .ok (.aload_n 0, 1) := by decide +kernel
theorem dJ5_append_c97b9_1 : decode cJ5_append_c97b9 1 = .ok (.getfield 79, 3) := by decide +kernel
theorem dJ5_append_c97b9_4 : decode cJ5_append_c97b9 4 = .ok (.istore_n 2, 1) := by decide +kernel
theorem dJ5_append_c97b9_5 : decode cJ5_append_c97b9 5 = .ok (.iload_n 2, 1) := by decide +kernel
theorem dJ5_append_c97b9_6 : decode cJ5_append_c97b9 6 = .ok (.iload_n 1, 1) := by decide +kernel
theorem dJ5_append_c97b9_7 : decode cJ5_append_c97b9 7 = .ok (.invokestatic 245, 3) := by decide +kernel
theorem dJ5_append_c97b9_10 : decode cJ5_append_c97b9 10 = .ok (.iadd, 1) := by decide +kernel
theorem dJ5_append_c97b9_11 : decode cJ5_append_c97b9 11 = .ok (.istore_n 3, 1) := by decide +kernel
theorem dJ5_append_c97b9_12 : decode cJ5_append_c97b9 12 = .ok (.aload_n 0, 1) := by decide +kernel
theorem dJ5_append_c97b9_13 : decode cJ5_append_c97b9 13 = .ok (.iload_n 3, 1) := by decide +kernel
theorem dJ5_append_c97b9_14 : decode cJ5_append_c97b9 14 = .ok (.invokevirtual 100, 3) := by decide +kernel
theorem dJ5_append_c97b9_17 : decode cJ5_append_c97b9 17 = .ok (.aload_n 0, 1) := by decide +kernel
theorem dJ5_append_c97b9_18 : decode cJ5_append_c97b9 18 = .ok (.invokevirtual 83, 3) := by decide +kernel
theorem dJ5_append_c97b9_21 : decode cJ5_append_c97b9 21 = .ok (.ifCond .eq 16, 3) := by decide +kernel
theorem dJ5_append_c97b9_24 : decode cJ5_append_c97b9 24 = .ok (.iload_n 1, 1) := by decide +kernel
theorem dJ5_append_c97b9_25 : decode cJ5_append_c97b9 25 = .ok (.iload_n 3, 1) := by decide +kernel
theorem dJ5_append_c97b9_26 : decode cJ5_append_c97b9 26 = .ok (.aload_n 0, 1) := by decide +kernel
theorem dJ5_append_c97b9_27 : decode cJ5_append_c97b9 27 = .ok (.getfield 15, 3) := by decide +kernel
theorem dJ5_append_c97b9_30 : decode cJ5_append_c97b9 30 = .ok (.invokestatic 248, 3) := by decide +kernel
theorem dJ5_append_c97b9_33 : decode cJ5_append_c97b9 33 = .ok (.pop, 1) := by decide +kernel
theorem dJ5_append_c97b9_34 : decode cJ5_append_c97b9 34 = .ok (.goto 14, 3) := by decide +kernel
theorem dJ5_append_c97b9_48 : decode cJ5_append_c97b9 48 = .ok (.aload_n 0, 1) := by decide +kernel
theorem dJ5_append_c97b9_49 : decode cJ5_append_c97b9 49 = .ok (.iload_n 3, 1) := by decide +kernel
theorem dJ5_append_c97b9_50 : decode cJ5_append_c97b9 50 = .ok (.putfield 79, 3) := by decide +kernel
theorem dJ5_append_c97b9_53 : decode cJ5_append_c97b9 53 = .ok (.aload_n 0, 1) := by decide +kernel
theorem dJ5_append_c97b9_54 : decode cJ5_append_c97b9 54 = .ok (.areturn, 1) := by decide +kernel
theorem dJ5_append_66267_0 : decode cJ5_append_66267 0 = .ok (.aload_n 0, 1) := by decide +kernel
theorem dJ5_append_66267_1 : decode cJ5_append_66267 1 = .ok (.getfield 79, 3) := by decide +kernel
theorem dJ5_append_66267_4 : decode cJ5_append_66267 4 = .ok (.istore_n 3, 1) := by decide +kernel
theorem dJ5_append_66267_5 : decode cJ5_append_66267 5 = .ok (.iload_n 3, 1) := by decide +kernel
theorem dJ5_append_66267_6 : decode cJ5_append_66267 6 = .ok (.lload_n 1, 1) := by decide +kernel
theorem dJ5_append_66267_7 : decode cJ5_append_66267 7 = .ok (.invokestatic 254, 3) := by decide +kernel
theorem dJ5_append_66267_10 : decode cJ5_append_66267 10 = .ok (.iadd, 1) := by decide +kernel
theorem dJ5_append_66267_11 : decode cJ5_append_66267 11 = .ok (.istore 4, 2) := by decide +kernel
theorem dJ5_append_66267_13 : decode cJ5_append_66267 13 = .ok (.aload_n 0, 1) := by decide +kernel
theorem dJ5_append_66267_14 : decode cJ5_append_66267 14 = .ok (.iload 4, 2) := by decide +kernel
theorem dJ5_append_66267_16 : decode cJ5_append_66267 16 = .ok (.invokevirtual 100, 3) := by decide +kernel
theorem dJ5_append_66267_19 : decode cJ5_append_66267 19 = .ok (.aload_n 0, 1) := by decide +kernel
theorem dJ5_append_66267_20 : decode cJ5_append_66267 20 = .ok (.invokevirtual 83, 3) := by decide +kernel
theorem dJ5_append_66267_23 : decode cJ5_append_66267 23 = .ok (.ifCond .eq 17, 3) := by decide +kernel
theorem dJ5_append_66267_26 : decode cJ5_append_66267 26 = .ok (.lload_n 1, 1) := by decide +kernel
theorem dJ5_append_66267_27 : decode cJ5_append_66267 27 = .ok (.iload 4, 2) := by decide +kernel
theorem dJ5_append_66267_29 : decode cJ5_append_66267 29 = .ok (.aload_n 0, 1) := by decide +kernel
theorem dJ5_append_66267_30 : decode cJ5_append_66267 30 = .ok (.getfield 15, 3) := by decide +kernel
theorem dJ5_append_66267_33 : decode cJ5_append_66267 33 = .ok (.invokestatic 259, 3) := by decide +kernel
theorem dJ5_append_66267_36 : decode cJ5_append_66267 36 = .ok (.pop, 1) := by decide +kernel
theorem dJ5_append_66267_37 : decode cJ5_append_66267 37 = .ok (.goto 15, 3) := by decide +kernel
theorem dJ5_append_66267_52 : decode cJ5_append_66267 52 = .ok (.aload_n 0, 1) := by decide +kernel
theorem dJ5_append_66267_53 : decode cJ5_append_66267 53 = .ok (.iload 4, 2) := by decide +kernel
theorem dJ5_append_66267_55 : decode cJ5_append_66267 55 = .ok (.putfield 79, 3) := by decide +kernel
theorem dJ5_append_66267_58 : decode cJ5_append_66267 58 = .ok (.aload_n 0, 1) := by decide +kernel
theorem dJ5_append_66267_59 : decode cJ5_append_66267 59 = .ok (.areturn, 1) := by decide +kernel
theorem dJ5_reverse_278bc_0 : decode cJ5_reverse_278bc 0 = .ok (.aload_n 0, 1) := by decide +kernel
theorem dJ5_reverse_278bc_1 : decode cJ5_reverse_278bc 1 = .ok (.getfield 15, 3) := by decide +kernel
theorem dJ5_reverse_278bc_4 : decode cJ5_reverse_278bc 4 = .ok (.astore_n 1, 1) := by decide +kernel
theorem dJ5_reverse_278bc_5 : decode cJ5_reverse_278bc 5 = .ok (.aload_n 0, 1) := by decide +kernel
theorem dJ5_reverse_278bc_6 : decode cJ5_reverse_278bc 6 = .ok (.getfield 79, 3) := by decide +kernel
theorem dJ5_reverse_278bc_9 : decode cJ5_reverse_278bc 9 = .ok (.istore_n 2, 1) := by decide +kernel
theorem dJ5_reverse_278bc_10 : decode cJ5_reverse_278bc 10 = .ok (.iload_n 2, 1) := by decide +kernel
theorem dJ5_reverse_278bc_11 : decode cJ5_reverse_278bc 11 = .ok (.iconst 1, 1) := by decide +kernel
theorem dJ5_reverse_278bc_12 : decode cJ5_reverse_278bc 12 = .ok (.isub, 1) := by decide +kernel
theorem dJ5_reverse_278bc_13 : decode cJ5_reverse_278bc 13 = .ok (.istore_n 3, 1) := by decide +kernel
theorem dJ5_reverse_278bc_14 : decode cJ5_reverse_278bc 14 = .ok (.aload_n 0, 1) := by decide +kernel
theorem dJ5_reverse_278bc_15 : decode cJ5_reverse_278bc 15 = .ok (.invokevirtual 83, 3) := by decide +kernel
theorem dJ5_reverse_278bc_18 : decode cJ5_reverse_278bc 18 = .ok (.ifCond .eq 50, 3) := by decide +kernel
theorem dJ5_reverse_278bc_21 : decode cJ5_reverse_278bc 21 = .ok (.iload_n 3, 1) := by decide +kernel
theorem dJ5_reverse_278bc_22 : decode cJ5_reverse_278bc 22 = .ok (.iconst 1, 1) := by decide +kernel
theorem dJ5_reverse_278bc_23 : decode cJ5_reverse_278bc 23 = .ok (.isub, 1) := by decide +kernel
theorem dJ5_reverse_278bc_24 : decode cJ5_reverse_278bc 24 = .ok (.iconst 1, 1) := by decide +kernel
theorem dJ5_reverse_278bc_25 : decode cJ5_reverse_278bc 25 = .ok (.ishr, 1) := by decide +kernel
theorem dJ5_reverse_278bc_26 : decode cJ5_reverse_278bc 26 = .ok (.istore 4, 2) := by decide +kernel
theorem dJ5_reverse_278bc_28 : decode cJ5_reverse_278bc 28 = .ok (.iload 4, 2) := by decide +kernel
theorem dJ5_reverse_278bc_30 : decode cJ5_reverse_278bc 30 = .ok (.ifCond .lt 35, 3) := by decide +kernel
theorem dJ5_reverse_278bc_33 : decode cJ5_reverse_278bc 33 = .ok (.iload_n 3, 1) := by decide +kernel
theorem dJ5_reverse_278bc_34 : decode cJ5_reverse_278bc 34 = .ok (.iload 4, 2) := by decide +kernel
theorem dJ5_reverse_278bc_36 : decode cJ5_reverse_278bc 36 = .ok (.isub, 1) := by decide +kernel
theorem dJ5_reverse_278bc_37 : decode cJ5_reverse_278bc 37 = .ok (.istore 5, 2) := by decide +kernel
theorem dJ5_reverse_278bc_39 : decode cJ5_reverse_278bc 39 = .ok (.aload_n 1, 1) := by decide +kernel
theorem dJ5_reverse_278bc_40 : decode cJ5_reverse_278bc 40 = .ok (.iload 4, 2) := by decide +kernel
theorem dJ5_reverse_278bc_42 : decode cJ5_reverse_278bc 42 = .ok (.baload, 1) := by decide +kernel
theorem dJ5_reverse_278bc_43 : decode cJ5_reverse_278bc 43 = .ok (.istore 6, 2) := by decide +kernel
theorem dJ5_reverse_278bc_45 : decode cJ5_reverse_278bc 45 = .ok (.aload_n 1, 1) := by decide +kernel
theorem dJ5_reverse_278bc_46 : decode cJ5_reverse_278bc 46 = .ok (.iload 4, 2) := by decide +kernel
theorem dJ5_reverse_278bc_48 : decode cJ5_reverse_278bc 48 = .ok (.aload_n 1, 1) := by decide +kernel
theorem dJ5_reverse_278bc_49 : decode cJ5_reverse_278bc 49 = .ok (.iload 5, 2) := by decide +kernel
theorem dJ5_reverse_278bc_51 : decode cJ5_reverse_278bc 51 = .ok (.baload, 1) := by decide +kernel
theorem dJ5_reverse_278bc_52 : decode cJ5_reverse_278bc 52 = .ok (.bastore, 1) := by decide +kernel
theorem dJ5_reverse_278bc_53 : decode cJ5_reverse_278bc 53 = .ok (.aload_n 1, 1) := by decide +kernel
theorem dJ5_reverse_278bc_54 : decode cJ5_reverse_278bc 54 = .ok (.iload 5, 2) := by decide +kernel
theorem dJ5_reverse_278bc_56 : decode cJ5_reverse_278bc 56 = .ok (.iload 6, 2) := by decide +kernel
theorem dJ5_reverse_278bc_58 : decode cJ5_reverse_278bc 58 = .ok (.bastore, 1) := by decide +kernel
theorem dJ5_reverse_278bc_59 : decode cJ5_reverse_278bc 59 = .ok (.iinc 4 (-1), 3) := by decide +kernel
theorem dJ5_reverse_278bc_62 : decode cJ5_reverse_278bc 62 = .ok (.goto (-34), 3) := by decide +kernel
theorem dJ5_reverse_278bc_65 : decode cJ5_reverse_278bc 65 = .ok (.goto 8, 3) := by decide +kernel
theorem dJ5_reverse_278bc_73 : decode cJ5_reverse_278bc 73 = .ok (.aload_n 0, 1) := by decide +kernel
theorem dJ5_reverse_278bc_74 : decode cJ5_reverse_278bc 74 = .ok (.areturn, 1) := by decide +kernel
theorem dJ5_getValue_6d5f1_0 : decode cJ5_getValue_6d5f1 0 = .ok (.aload_n 0, 1) := by decide +kernel
theorem dJ5_getValue_6d5f1_1 : decode cJ5_getValue_6d5f1 1 = .ok (.getfield 15, 3) := by decide +kernel
theorem dJ5_getValue_6d5f1_4 : decode cJ5_getValue_6d5f1 4 = .ok (.areturn, 1) := by decide +kernel
theorem dJ5_isLatin1_aae02_0 : decode cJ5_isLatin1_aae02 0 = .ok (.getstatic 18, 3) := by decide +kernel
theorem dJ5_isLatin1_aae02_3 : decode cJ5_isLatin1_aae02 3 = .ok (.ifCond .eq 14, 3) := by decide +kernel
theorem dJ5_isLatin1_aae02_6 : decode cJ5_isLatin1_aae02 6 = .ok (.aload_n 0, 1) := by decide +kernel
theorem dJ5_isLatin1_aae02_7 : decode cJ5_isLatin1_aae02 7 = .ok (.getfield 22, 3) := by decide +kernel
theorem dJ5_isLatin1_aae02_10 : decode cJ5_isLatin1_aae02 10 = .ok (.ifCond .ne 7, 3) := by decide +kernel
theorem dJ5_isLatin1_aae02_13 : decode cJ5_isLatin1_aae02 13 = .ok (.iconst 1, 1) := by decide +kernel
theorem dJ5_isLatin1_aae02_14 : decode cJ5_isLatin1_aae02 14 = .ok (.goto 4, 3) := by decide +kernel
theorem dJ5_isLatin1_aae02_18 : decode cJ5_isLatin1_aae02 18 = .ok (.ireturn, 1) := by decide +kernel
theorem dJ5_inflateIfNeededFor_a7421_0 : decode cJ5_inflateIfNeededFor_a7421 0 = .ok (.getstatic 18, 3) := by decide +kernel
theorem dJ5_inflateIfNeededFor_a7421_3 : decode cJ5_inflateIfNeededFor_a7421 3 = .ok (.ifCond .eq 18, 3) := by decide +kernel
theorem dJ5_inflateIfNeededFor_a7421_6 : decode cJ5_inflateIfNeededFor_a7421 6 = .ok (.aload_n 0, 1) := by decide +kernel
theorem dJ5_inflateIfNeededFor_a7421_7 : decode cJ5_inflateIfNeededFor_a7421 7 = .ok (.getfield 22, 3) := by decide +kernel
theorem dJ5_inflateIfNeededFor_a7421_10 : decode cJ5_inflateIfNeededFor_a7421 10 = .ok (.aload_n 1, 1) := by decide +kernel
theorem dJ5_inflateIfNeededFor_a7421_11 : decode cJ5_inflateIfNeededFor_a7421 11 = .ok (.invokevirtual 40, 3) := by decide +kernel
theorem dJ5_inflateIfNeededFor_a7421_14 : decode cJ5_inflateIfNeededFor_a7421 14 = .ok (.if_icmp .eq 7, 3) := by decide +kernel
theorem dJ5_inflateIfNeededFor_a7421_21 : decode cJ5_inflateIfNeededFor_a7421 21 = .ok (.return_, 1) := by decide +kernel
theorem dJ5_putStringAt_47b60_0 : decode cJ5_putStringAt_47b60 0 = .ok (.aload_n 0, 1) := by decide +kernel
theorem dJ5_putStringAt_47b60_1 : decode cJ5_putStringAt_47b60 1 = .ok (.aload_n 2, 1) := by decide +kernel
theorem dJ5_putStringAt_47b60_2 : decode cJ5_putStringAt_47b60 2 = .ok (.invokevirtual 397, 3) := by decide +kernel
theorem dJ5_putStringAt_47b60_5 : decode cJ5_putStringAt_47b60 5 = .ok (.aload_n 2, 1) := by decide +kernel
theorem dJ5_putStringAt_47b60_6 : decode cJ5_putStringAt_47b60 6 = .ok (.aload_n 0, 1) := by decide +kernel
theorem dJ5_putStringAt_47b60_7 : decode cJ5_putStringAt_47b60 7 = .ok (.getfield 15, 3) := by decide +kernel
theorem dJ5_putStringAt_47b60_10 : decode cJ5_putStringAt_47b60 10 = .ok (.iload_n 1, 1) := by decide +kernel
theorem dJ5_putStringAt_47b60_11 : decode cJ5_putStringAt_47b60 11 = .ok (.aload_n 0, 1) := by decide +kernel
theorem dJ5_putStringAt_47b60_12 : decode cJ5_putStringAt_47b60 12 = .ok (.getfield 22, 3) := by decide +kernel
theorem dJ5_putStringAt_47b60_15 : decode cJ5_putStringAt_47b60 15 = .ok (.invokevirtual 399, 3) := by decide +kernel
theorem dJ5_putStringAt_47b60_18 : decode cJ5_putStringAt_47b60 18 = .ok (.return_, 1) := by decide +kernel
theorem dJ6_getChars_ba4f3_0 : decode cJ6_getChars_ba4f3 0 = .ok (.iload_n 1, 1) := by decide +kernel
theorem dJ6_getChars_ba4f3_1 : decode cJ6_getChars_ba4f3 1 = .ok (.istore 5, 2) := by decide +kernel
theorem dJ6_getChars_ba4f3_3 : decode cJ6_getChars_ba4f3 3 = .ok (.iload_n 0, 1) := by decide +kernel
theorem dJ6_getChars_ba4f3_4 : decode cJ6_getChars_ba4f3 4 = .ok (.ifCond .ge 7, 3) := by decide +kernel
theorem dJ6_getChars_ba4f3_7 : decode cJ6_getChars_ba4f3 7 = .ok (.iconst 1, 1) := by decide +kernel
theorem dJ6_getChars_ba4f3_8 : decode cJ6_getChars_ba4f3 8 = .ok (.goto 4, 3) := by decide +kernel
theorem dJ6_getChars_ba4f3_11 : decode cJ6_getChars_ba4f3 11 = .ok (.iconst 0, 1) := by decide +kernel
theorem dJ6_getChars_ba4f3_12 : decode cJ6_getChars_ba4f3 12 = .ok (.istore 6, 2) := by decide +kernel
theorem dJ6_getChars_ba4f3_14 : decode cJ6_getChars_ba4f3 14 = .ok (.iload 6, 2) := by decide +kernel
theorem dJ6_getChars_ba4f3_16 : decode cJ6_getChars_ba4f3 16 = .ok (.ifCond .ne 6, 3) := by decide +kernel
theorem dJ6_getChars_ba4f3_19 : decode cJ6_getChars_ba4f3 19 = .ok (.iload_n 0, 1) := by decide +kernel
theorem dJ6_getChars_ba4f3_20 : decode cJ6_getChars_ba4f3 20 = .ok (.ineg, 1) := by decide +kernel
theorem dJ6_getChars_ba4f3_21 : decode cJ6_getChars_ba4f3 21 = .ok (.istore_n 0, 1) := by decide +kernel
theorem dJ6_getChars_ba4f3_22 : decode cJ6_getChars_ba4f3 22 = .ok (.iload_n 0, 1) := by decide +kernel
theorem dJ6_getChars_ba4f3_23 : decode cJ6_getChars_ba4f3 23 = .ok (.bipush (-100), 2) := by decide +kernel
theorem dJ6_getChars_ba4f3_25 : decode cJ6_getChars_ba4f3 25 = .ok (.if_icmp .gt 47, 3) := by decide +kernel
theorem dJ6_getChars_ba4f3_28 : decode cJ6_getChars_ba4f3 28 = .ok (.iload_n 0, 1) := by decide +kernel
theorem dJ6_getChars_ba4f3_29 : decode cJ6_getChars_ba4f3 29 = .ok (.bipush 100, 2) := by decide +kernel
theorem dJ6_getChars_ba4f3_31 : decode cJ6_getChars_ba4f3 31 = .ok (.idiv, 1) := by decide +kernel
theorem dJ6_getChars_ba4f3_32 : decode cJ6_getChars_ba4f3 32 = .ok (.istore_n 3, 1) := by decide +kernel
theorem dJ6_getChars_ba4f3_33 : decode cJ6_getChars_ba4f3 33 = .ok (.iload_n 3, 1) := by decide +kernel
theorem dJ6_getChars_ba4f3_34 : decode cJ6_getChars_ba4f3 34 = .ok (.bipush 100, 2) := by decide +kernel
theorem dJ6_getChars_ba4f3_36 : decode cJ6_getChars_ba4f3 36 = .ok (.imul, 1) := by decide +kernel
theorem dJ6_getChars_ba4f3_37 : decode cJ6_getChars_ba4f3 37 = .ok (.iload_n 0, 1) := by decide +kernel
theorem dJ6_getChars_ba4f3_38 : decode cJ6_getChars_ba4f3 38 = .ok (.isub, 1) := by decide +kernel
theorem dJ6_getChars_ba4f3_39 : decode cJ6_getChars_ba4f3 39 = .ok (.istore 4, 2) := by decide +kernel
theorem dJ6_getChars_ba4f3_41 : decode cJ6_getChars_ba4f3 41 = .ok (.iload_n 3, 1) := by decide +kernel
theorem dJ6_getChars_ba4f3_42 : decode cJ6_getChars_ba4f3 42 = .ok (.istore_n 0, 1) := by decide +kernel
theorem dJ6_getChars_ba4f3_43 : decode cJ6_getChars_ba4f3 43 = .ok (.aload_n 2, 1) := by decide +kernel
theorem dJ6_getChars_ba4f3_44 : decode cJ6_getChars_ba4f3 44 = .ok (.iinc 5 (-1), 3) := by decide +kernel
theorem dJ6_getChars_ba4f3_47 : decode cJ6_getChars_ba4f3 47 = .ok (.iload 5, 2) := by decide +kernel
theorem dJ6_getChars_ba4f3_49 : decode cJ6_getChars_ba4f3 49 = .ok (.getstatic 83, 3) := by decide +kernel
theorem dJ6_getChars_ba4f3_52 : decode cJ6_getChars_ba4f3 52 = .ok (.iload 4, 2) := by decide +kernel
theorem dJ6_getChars_ba4f3_54 : decode cJ6_getChars_ba4f3 54 = .ok (.baload, 1) := by decide +kernel
theorem dJ6_getChars_ba4f3_55 : decode cJ6_getChars_ba4f3 55 = .ok (.bastore, 1) := by decide +kernel
theorem dJ6_getChars_ba4f3_56 : decode cJ6_getChars_ba4f3 56 = .ok (.aload_n 2, 1) := by decide +kernel
theorem dJ6_getChars_ba4f3_57 : decode cJ6_getChars_ba4f3 57 = .ok (.iinc 5 (-1), 3) := by decide +kernel
theorem dJ6_getChars_ba4f3_60 : decode cJ6_getChars_ba4f3 60 = .ok (.iload 5, 2) := by decide +kernel
theorem dJ6_getChars_ba4f3_62 : decode cJ6_getChars_ba4f3 62 = .ok (.getstatic 87, 3) := by decide +kernel
theorem dJ6_getChars_ba4f3_65 : decode cJ6_getChars_ba4f3 65 = .ok (.iload 4, 2) := by decide +kernel
theorem dJ6_getChars_ba4f3_67 : decode cJ6_getChars_ba4f3 67 = .ok (.baload, 1) := by decide +kernel
theorem dJ6_getChars_ba4f3_68 : decode cJ6_getChars_ba4f3 68 = .ok (.bastore, 1) := by decide +kernel
theorem dJ6_getChars_ba4f3_69 : decode cJ6_getChars_ba4f3 69 = .ok (.goto (-47), 3) := by decide +kernel
theorem dJ6_getChars_ba4f3_72 : decode cJ6_getChars_ba4f3 72 = .ok (.aload_n 2, 1) := by decide +kernel
theorem dJ6_getChars_ba4f3_73 : decode cJ6_getChars_ba4f3 73 = .ok (.iinc 5 (-1), 3) := by decide +kernel
theorem dJ6_getChars_ba4f3_76 : decode cJ6_getChars_ba4f3 76 = .ok (.iload 5, 2) := by decide +kernel
theorem dJ6_getChars_ba4f3_78 : decode cJ6_getChars_ba4f3 78 = .ok (.getstatic 83, 3) := by decide +kernel
theorem dJ6_getChars_ba4f3_81 : decode cJ6_getChars_ba4f3 81 = .ok (.iload_n 0, 1) := by decide +kernel
theorem dJ6_getChars_ba4f3_82 : decode cJ6_getChars_ba4f3 82 = .ok (.ineg, 1) := by decide +kernel
theorem dJ6_getChars_ba4f3_83 : decode cJ6_getChars_ba4f3 83 = .ok (.baload, 1) := by decide +kernel
theorem dJ6_getChars_ba4f3_84 : decode cJ6_getChars_ba4f3 84 = .ok (.bastore, 1) := by decide +kernel
theorem dJ6_getChars_ba4f3_85 : decode cJ6_getChars_ba4f3 85 = .ok (.iload_n 0, 1) := by decide +kernel
theorem dJ6_getChars_ba4f3_86 : decode cJ6_getChars_ba4f3 86 = .ok (.bipush (-9), 2) := by decide +kernel
theorem dJ6_getChars_ba4f3_88 : decode cJ6_getChars_ba4f3 88 = .ok (.if_icmp .ge 16, 3) := by decide +kernel
theorem dJ6_getChars_ba4f3_91 : decode cJ6_getChars_ba4f3 91 = .ok (.aload_n 2, 1) := by decide +kernel
theorem dJ6_getChars_ba4f3_92 : decode cJ6_getChars_ba4f3 92 = .ok (.iinc 5 (-1), 3) := by decide +kernel
theorem dJ6_getChars_ba4f3_95 : decode cJ6_getChars_ba4f3 95 = .ok (.iload 5, 2) := by decide +kernel
theorem dJ6_getChars_ba4f3_97 : decode cJ6_getChars_ba4f3 97 = .ok (.getstatic 87, 3) := by decide +kernel
theorem dJ6_getChars_ba4f3_100 : decode cJ6_getChars_ba4f3 100 = .ok (.iload_n 0, 1) := by decide +kernel
theorem dJ6_getChars_ba4f3_101 : decode cJ6_getChars_ba4f3 101 = .ok (.ineg, 1) := by decide +kernel
theorem dJ6_getChars_ba4f3_102 : decode cJ6_getChars_ba4f3 102 = .ok (.baload, 1) := by decide +kernel
theorem dJ6_getChars_ba4f3_103 : decode cJ6_getChars_ba4f3 103 = .ok (.bastore, 1) := by decide +kernel
theorem dJ6_getChars_ba4f3_104 : decode cJ6_getChars_ba4f3 104 = .ok (.iload 6, 2) := by decide +kernel
theorem dJ6_getChars_ba4f3_106 : decode cJ6_getChars_ba4f3 106 = .ok (.ifCond .eq 12, 3) := by decide +kernel
theorem dJ6_getChars_ba4f3_109 : decode cJ6_getChars_ba4f3 109 = .ok (.aload_n 2, 1) := by decide +kernel
theorem dJ6_getChars_ba4f3_110 : decode cJ6_getChars_ba4f3 110 = .ok (.iinc 5 (-1), 3) := by decide +kernel
theorem dJ6_getChars_ba4f3_113 : decode cJ6_getChars_ba4f3 113 = .ok (.iload 5, 2) := by decide +kernel
theorem dJ6_getChars_ba4f3_115 : decode cJ6_getChars_ba4f3 115 = .ok (.bipush 45, 2) := by decide +kernel
theorem dJ6_getChars_ba4f3_117 : decode cJ6_getChars_ba4f3 117 = .ok (.bastore, 1) := by decide +kernel
theorem dJ6_getChars_ba4f3_118 : decode cJ6_getChars_ba4f3 118 = .ok (.iload 5, 2) := by decide +kernel
theorem dJ6_getChars_ba4f3_120 : decode cJ6_getChars_ba4f3 120 = .ok (.ireturn, 1) := by decide +kernel
theorem dJ6_stringSize_0f7a4_0 : decode cJ6_stringSize_0f7a4 0 = .ok (.iconst 1, 1) := by decide +kernel
theorem dJ6_stringSize_0f7a4_1 : decode cJ6_stringSize_0f7a4 1 = .ok (.istore_n 1, 1) := by decide +kernel
theorem dJ6_stringSize_0f7a4_2 : decode cJ6_stringSize_0f7a4 2 = .ok (.iload_n 0, 1) := by decide +kernel
theorem dJ6_stringSize_0f7a4_3 : decode cJ6_stringSize_0f7a4 3 = .ok (.ifCond .lt 8, 3) := by decide +kernel
theorem dJ6_stringSize_0f7a4_6 : decode cJ6_stringSize_0f7a4 6 = .ok (.iconst 0, 1) := by decide +kernel
theorem dJ6_stringSize_0f7a4_7 : decode cJ6_stringSize_0f7a4 7 = .ok (.istore_n 1, 1) := by decide +kernel
theorem dJ6_stringSize_0f7a4_8 : decode cJ6_stringSize_0f7a4 8 = .ok (.iload_n 0, 1) := by decide +kernel
theorem dJ6_stringSize_0f7a4_9 : decode cJ6_stringSize_0f7a4 9 = .ok (.ineg, 1) := by decide +kernel
theorem dJ6_stringSize_0f7a4_10 : decode cJ6_stringSize_0f7a4 10 = .ok (.istore_n 0, 1) := by decide +kernel
theorem dJ6_stringSize_0f7a4_11 : decode cJ6_stringSize_0f7a4 11 = .ok (.bipush (-10), 2) := by decide +kernel
theorem dJ6_stringSize_0f7a4_13 : decode cJ6_stringSize_0f7a4 13 = .ok (.istore_n 2, 1) := by decide +kernel
theorem dJ6_stringSize_0f7a4_14 : decode cJ6_stringSize_0f7a4 14 = .ok (.iconst 1, 1) := by decide +kernel
theorem dJ6_stringSize_0f7a4_15 : decode cJ6_stringSize_0f7a4 15 = .ok (.istore_n 3, 1) := by decide +kernel
theorem dJ6_stringSize_0f7a4_16 : decode cJ6_stringSize_0f7a4 16 = .ok (.iload_n 3, 1) := by decide +kernel
theorem dJ6_stringSize_0f7a4_17 : decode cJ6_stringSize_0f7a4 17 = .ok (.bipush 10, 2) := by decide +kernel
theorem dJ6_stringSize_0f7a4_19 : decode cJ6_stringSize_0f7a4 19 = .ok (.if_icmp .ge 23, 3) := by decide +kernel
theorem dJ6_stringSize_0f7a4_22 : decode cJ6_stringSize_0f7a4 22 = .ok (.iload_n 0, 1) := by decide +kernel
theorem dJ6_stringSize_0f7a4_23 : decode cJ6_stringSize_0f7a4 23 = .ok (.iload_n 2, 1) := by decide +kernel
theorem dJ6_stringSize_0f7a4_24 : decode cJ6_stringSize_0f7a4 24 = .ok (.if_icmp .le 7, 3) := by decide +kernel
theorem dJ6_stringSize_0f7a4_27 : decode cJ6_stringSize_0f7a4 27 = .ok (.iload_n 3, 1) := by decide +kernel
theorem dJ6_stringSize_0f7a4_28 : decode cJ6_stringSize_0f7a4 28 = .ok (.iload_n 1, 1) := by decide +kernel
theorem dJ6_stringSize_0f7a4_29 : decode cJ6_stringSize_0f7a4 29 = .ok (.iadd, 1) := by decide +kernel
theorem dJ6_stringSize_0f7a4_30 : decode cJ6_stringSize_0f7a4 30 = .ok (.ireturn, 1) := by decide +kernel
theorem dJ6_stringSize_0f7a4_31 : decode cJ6_stringSize_0f7a4 31 = .ok (.bipush 10, 2) := by decide +kernel
theorem dJ6_stringSize_0f7a4_33 : decode cJ6_stringSize_0f7a4 33 = .ok (.iload_n 2, 1) := by decide +kernel
theorem dJ6_stringSize_0f7a4_34 : decode cJ6_stringSize_0f7a4 34 = .ok (.imul, 1) := by decide +kernel
theorem dJ6_stringSize_0f7a4_35 : decode cJ6_stringSize_0f7a4 35 = .ok (.istore_n 2, 1) := by decide +kernel
theorem dJ6_stringSize_0f7a4_36 : decode cJ6_stringSize_0f7a4 36 = .ok (.iinc 3 1, 3) := by decide +kernel
theorem dJ6_stringSize_0f7a4_39 : decode cJ6_stringSize_0f7a4 39 = .ok (.goto (-23), 3) := by decide +kernel
theorem dJ6_stringSize_0f7a4_42 : decode cJ6_stringSize_0f7a4 42 = .ok (.bipush 10, 2) := by decide +kernel
theorem dJ6_stringSize_0f7a4_44 : decode cJ6_stringSize_0f7a4 44 = .ok (.iload_n 1, 1) := by decide +kernel
theorem dJ6_stringSize_0f7a4_45 : decode cJ6_stringSize_0f7a4 45 = .ok (.iadd, 1) := by decide +kernel
theorem dJ6_stringSize_0f7a4_46 : decode cJ6_stringSize_0f7a4 46 = .ok (.ireturn, 1) := by decide +kernel
theorem dJ13_getChars_11360_0 : decode cJ13_getChars_11360 0 = .ok (.iload_n 2, 1) := by decide +kernel
theorem dJ13_getChars_11360_1 : decode cJ13_getChars_11360 1 = .ok (.istore 7, 2) := by decide +kernel
theorem dJ13_getChars_11360_3 : decode cJ13_getChars_11360 3 = .ok (.lload_n 0, 1) := by decide +kernel
theorem dJ13_getChars_11360_4 : decode cJ13_getChars_11360 4 = .ok (.lconst 0, 1) := by decide +kernel
theorem dJ13_getChars_11360_5 : decode cJ13_getChars_11360 5 = .ok (.lcmp, 1) := by decide +kernel
theorem dJ13_getChars_11360_6 : decode cJ13_getChars_11360 6 = .ok (.ifCond .ge 7, 3) := by decide +kernel
theorem dJ13_getChars_11360_9 : decode cJ13_getChars_11360 9 = .ok (.iconst 1, 1) := by decide +kernel
theorem dJ13_getChars_11360_10 : decode cJ13_getChars_11360 10 = .ok (.goto 4, 3) := by decide +kernel
theorem dJ13_getChars_11360_13 : decode cJ13_getChars_11360 13 = .ok (.iconst 0, 1) := by decide +kernel
theorem dJ13_getChars_11360_14 : decode cJ13_getChars_11360 14 = .ok (.istore 8, 2) := by decide +kernel
theorem dJ13_getChars_11360_16 : decode cJ13_getChars_11360 16 = .ok (.iload 8, 2) := by decide +kernel
theorem dJ13_getChars_11360_18 : decode cJ13_getChars_11360 18 = .ok (.ifCond .ne 6, 3) := by decide +kernel
theorem dJ13_getChars_11360_21 : decode cJ13_getChars_11360 21 = .ok (.lload_n 0, 1) := by decide +kernel
theorem dJ13_getChars_11360_22 : decode cJ13_getChars_11360 22 = .ok (.lneg, 1) := by decide +kernel
theorem dJ13_getChars_11360_23 : decode cJ13_getChars_11360 23 = .ok (.lstore_n 0, 1) := by decide +kernel
theorem dJ13_getChars_11360_24 : decode cJ13_getChars_11360 24 = .ok (.lload_n 0, 1) := by decide +kernel
theorem dJ13_getChars_11360_25 : decode cJ13_getChars_11360 25 = .ok (.ldc2_w 129, 3) := by decide +kernel
theorem dJ13_getChars_11360_28 : decode cJ13_getChars_11360 28 = .ok (.lcmp, 1) := by decide +kernel
theorem dJ13_getChars_11360_29 : decode cJ13_getChars_11360 29 = .ok (.ifCond .gt 53, 3) := by decide +kernel
theorem dJ13_getChars_11360_32 : decode cJ13_getChars_11360 32 = .ok (.lload_n 0, 1) := by decide +kernel
theorem dJ13_getChars_11360_33 : decode cJ13_getChars_11360 33 = .ok (.ldc2_w 131, 3) := by decide +kernel
theorem dJ13_getChars_11360_36 : decode cJ13_getChars_11360 36 = .ok (.ldiv, 1) := by decide +kernel
theorem dJ13_getChars_11360_37 : decode cJ13_getChars_11360 37 = .ok (.lstore 4, 2) := by decide +kernel
theorem dJ13_getChars_11360_39 : decode cJ13_getChars_11360 39 = .ok (.lload 4, 2) := by decide +kernel
theorem dJ13_getChars_11360_41 : decode cJ13_getChars_11360 41 = .ok (.ldc2_w 131, 3) := by decide +kernel
theorem dJ13_getChars_11360_44 : decode cJ13_getChars_11360 44 = .ok (.lmul, 1) := by decide +kernel
theorem dJ13_getChars_11360_45 : decode cJ13_getChars_11360 45 = .ok (.lload_n 0, 1) := by decide +kernel
theorem dJ13_getChars_11360_46 : decode cJ13_getChars_11360 46 = .ok (.lsub, 1) := by decide +kernel
theorem dJ13_getChars_11360_47 : decode cJ13_getChars_11360 47 = .ok (.l2i, 1) := by decide +kernel
theorem dJ13_getChars_11360_48 : decode cJ13_getChars_11360 48 = .ok (.istore 6, 2) := by decide +kernel
theorem dJ13_getChars_11360_50 : decode cJ13_getChars_11360 50 = .ok (.lload 4, 2) := by decide +kernel
theorem dJ13_getChars_11360_52 : decode cJ13_getChars_11360 52 = .ok (.lstore_n 0, 1) := by decide +kernel
theorem dJ13_getChars_11360_53 : decode cJ13_getChars_11360 53 = .ok (.aload_n 3, 1) := by decide +kernel
theorem dJ13_getChars_11360_54 : decode cJ13_getChars_11360 54 = .ok (.iinc 7 (-1), 3) := by decide +kernel
theorem dJ13_getChars_11360_57 : decode cJ13_getChars_11360 57 = .ok (.iload 7, 2) := by decide +kernel
theorem dJ13_getChars_11360_59 : decode cJ13_getChars_11360 59 = .ok (.getstatic 133, 3) := by decide +kernel
theorem dJ13_getChars_11360_62 : decode cJ13_getChars_11360 62 = .ok (.iload 6, 2) := by decide +kernel
theorem dJ13_getChars_11360_64 : decode cJ13_getChars_11360 64 = .ok (.baload, 1) := by decide +kernel
theorem dJ13_getChars_11360_65 : decode cJ13_getChars_11360 65 = .ok (.bastore, 1) := by decide +kernel
theorem dJ13_getChars_11360_66 : decode cJ13_getChars_11360 66 = .ok (.aload_n 3, 1) := by decide +kernel
theorem dJ13_getChars_11360_67 : decode cJ13_getChars_11360 67 = .ok (.iinc 7 (-1), 3) := by decide +kernel
theorem dJ13_getChars_11360_70 : decode cJ13_getChars_11360 70 = .ok (.iload 7, 2) := by decide +kernel
theorem dJ13_getChars_11360_72 : decode cJ13_getChars_11360 72 = .ok (.getstatic 137, 3) := by decide +kernel
theorem dJ13_getChars_11360_75 : decode cJ13_getChars_11360 75 = .ok (.iload 6, 2) := by decide +kernel
theorem dJ13_getChars_11360_77 : decode cJ13_getChars_11360 77 = .ok (.baload, 1) := by decide +kernel
theorem dJ13_getChars_11360_78 : decode cJ13_getChars_11360 78 = .ok (.bastore, 1) := by decide +kernel
theorem dJ13_getChars_11360_79 : decode cJ13_getChars_11360 79 = .ok (.goto (-55), 3) := by decide +kernel
theorem dJ13_getChars_11360_82 : decode cJ13_getChars_11360 82 = .ok (.lload_n 0, 1) := by decide +kernel
theorem dJ13_getChars_11360_83 : decode cJ13_getChars_11360 83 = .ok (.l2i, 1) := by decide +kernel
theorem dJ13_getChars_11360_84 : decode cJ13_getChars_11360 84 = .ok (.istore 10, 2) := by decide +kernel
theorem dJ13_getChars_11360_86 : decode cJ13_getChars_11360 86 = .ok (.iload 10, 2) := by decide +kernel
theorem dJ13_getChars_11360_88 : decode cJ13_getChars_11360 88 = .ok (.bipush (-100), 2) := by decide +kernel
theorem dJ13_getChars_11360_90 : decode cJ13_getChars_11360 90 = .ok (.if_icmp .gt 53, 3) := by decide +kernel
theorem dJ13_getChars_11360_93 : decode cJ13_getChars_11360 93 = .ok (.iload 10, 2) := by decide +kernel
theorem dJ13_getChars_11360_95 : decode cJ13_getChars_11360 95 = .ok (.bipush 100, 2) := by decide +kernel
theorem dJ13_getChars_11360_97 : decode cJ13_getChars_11360 97 = .ok (.idiv, 1) := by decide +kernel
theorem dJ13_getChars_11360_98 : decode cJ13_getChars_11360 98 = .ok (.istore 9, 2) := by decide +kernel
theorem dJ13_getChars_11360_100 : decode cJ13_getChars_11360 100 = .ok (.iload 9, 2) := by decide +kernel
theorem dJ13_getChars_11360_102 : decode cJ13_getChars_11360 102 = .ok (.bipush 100, 2) := by decide +kernel
theorem dJ13_getChars_11360_104 : decode cJ13_getChars_11360 104 = .ok (.imul, 1) := by decide +kernel
theorem dJ13_getChars_11360_105 : decode cJ13_getChars_11360 105 = .ok (.iload 10, 2) := by decide +kernel
theorem dJ13_getChars_11360_107 : decode cJ13_getChars_11360 107 = .ok (.isub, 1) := by decide +kernel
theorem dJ13_getChars_11360_108 : decode cJ13_getChars_11360 108 = .ok (.istore 6, 2) := by decide +kernel
theorem dJ13_getChars_11360_110 : decode cJ13_getChars_11360 110 = .ok (.iload 9, 2) := by decide +kernel
theorem dJ13_getChars_11360_112 : decode cJ13_getChars_11360 112 = .ok (.istore 10, 2) := by decide +kernel
theorem dJ13_getChars_11360_114 : decode cJ13_getChars_11360 114 = .ok (.aload_n 3, 1) := by decide +kernel
theorem dJ13_getChars_11360_115 : decode cJ13_getChars_11360 115 = .ok (.iinc 7 (-1), 3) := by decide +kernel
theorem dJ13_getChars_11360_118 : decode cJ13_getChars_11360 118 = .ok (.iload 7, 2) := by decide +kernel
theorem dJ13_getChars_11360_120 : decode cJ13_getChars_11360 120 = .ok (.getstatic 133, 3) := by decide +kernel
theorem dJ13_getChars_11360_123 : decode cJ13_getChars_11360 123 = .ok (.iload 6, 2) := by decide +kernel
theorem dJ13_getChars_11360_125 : decode cJ13_getChars_11360 125 = .ok (.baload, 1) := by decide +kernel
theorem dJ13_getChars_11360_126 : decode cJ13_getChars_11360 126 = .ok (.bastore, 1) := by decide +kernel
theorem dJ13_getChars_11360_127 : decode cJ13_getChars_11360 127 = .ok (.aload_n 3, 1) := by decide +kernel
theorem dJ13_getChars_11360_128 : decode cJ13_getChars_11360 128 = .ok (.iinc 7 (-1), 3) := by decide +kernel
theorem dJ13_getChars_11360_131 : decode cJ13_getChars_11360 131 = .ok (.iload 7, 2) := by decide +kernel
theorem dJ13_getChars_11360_133 : decode cJ13_getChars_11360 133 = .ok (.getstatic 137, 3) := by decide +kernel
theorem dJ13_getChars_11360_136 : decode cJ13_getChars_11360 136 = .ok (.iload 6, 2) := by decide +kernel
theorem dJ13_getChars_11360_138 : decode cJ13_getChars_11360 138 = .ok (.baload, 1) := by decide +kernel
theorem dJ13_getChars_11360_139 : decode cJ13_getChars_11360 139 = .ok (.bastore, 1) := by decide +kernel
theorem dJ13_getChars_11360_140 : decode cJ13_getChars_11360 140 = .ok (.goto (-54), 3) := by decide +kernel
theorem dJ13_getChars_11360_143 : decode cJ13_getChars_11360 143 = .ok (.aload_n 3, 1) := by decide +kernel
theorem dJ13_getChars_11360_144 : decode cJ13_getChars_11360 144 = .ok (.iinc 7 (-1), 3) := by decide +kernel
theorem dJ13_getChars_11360_147 : decode cJ13_getChars_11360 147 = .ok (.iload 7, 2) := by decide +kernel
theorem dJ13_getChars_11360_149 : decode cJ13_getChars_11360 149 = .ok (.getstatic 133, 3) := by decide +kernel
theorem dJ13_getChars_11360_152 : decode cJ13_getChars_11360 152 = .ok (.iload 10, 2) := by decide +kernel
theorem dJ13_getChars_11360_154 : decode cJ13_getChars_11360 154 = .ok (.ineg, 1) := by decide +kernel
theorem dJ13_getChars_11360_155 : decode cJ13_getChars_11360 155 = .ok (.baload, 1) := by decide +kernel
theorem dJ13_getChars_11360_156 : decode cJ13_getChars_11360 156 = .ok (.bastore, 1) := by decide +kernel
theorem dJ13_getChars_11360_157 : decode cJ13_getChars_11360 157 = .ok (.iload 10, 2) := by decide +kernel
theorem dJ13_getChars_11360_159 : decode cJ13_getChars_11360 159 = .ok (.bipush (-9), 2) := by decide +kernel
theorem dJ13_getChars_11360_161 : decode cJ13_getChars_11360 161 = .ok (.if_icmp .ge 17, 3) := by decide +kernel
theorem dJ13_getChars_11360_164 : decode cJ13_getChars_11360 164 = .ok (.aload_n 3, 1) := by decide +kernel
theorem dJ13_getChars_11360_165 : decode cJ13_getChars_11360 165 = .ok (.iinc 7 (-1), 3) := by decide +kernel
theorem dJ13_getChars_11360_168 : decode cJ13_getChars_11360 168 = .ok (.iload 7, 2) := by decide +kernel
theorem dJ13_getChars_11360_170 : decode cJ13_getChars_11360 170 = .ok (.getstatic 137, 3) := by decide +kernel
theorem dJ13_getChars_11360_173 : decode cJ13_getChars_11360 173 = .ok (.iload 10, 2) := by decide +kernel
theorem dJ13_getChars_11360_175 : decode cJ13_getChars_11360 175 = .ok (.ineg, 1) := by decide +kernel
theorem dJ13_getChars_11360_176 : decode cJ13_getChars_11360 176 = .ok (.baload, 1) := by decide +kernel
theorem dJ13_getChars_11360_177 : decode cJ13_getChars_11360 177 = .ok (.bastore, 1) := by decide +kernel
theorem dJ13_getChars_11360_178 : decode cJ13_getChars_11360 178 = .ok (.iload 8, 2) := by decide +kernel
theorem dJ13_getChars_11360_180 : decode cJ13_getChars_11360 180 = .ok (.ifCond .eq 12, 3) := by decide +kernel
theorem dJ13_getChars_11360_183 : decode cJ13_getChars_11360 183 = .ok (.aload_n 3, 1) := by decide +kernel
theorem dJ13_getChars_11360_184 : decode cJ13_getChars_11360 184 = .ok (.iinc 7 (-1), 3) := by decide +kernel
theorem dJ13_getChars_11360_187 : decode cJ13_getChars_11360 187 = .ok (.iload 7, 2) := by decide +kernel
theorem dJ13_getChars_11360_189 : decode cJ13_getChars_11360 189 = .ok (.bipush 45, 2) := by decide +kernel
theorem dJ13_getChars_11360_191 : decode cJ13_getChars_11360 191 = .ok (.bastore, 1) := by decide +kernel
theorem dJ13_getChars_11360_192 : decode cJ13_getChars_11360 192 = .ok (.iload 7, 2) := by decide +kernel
theorem dJ13_getChars_11360_194 : decode cJ13_getChars_11360 194 = .ok (.ireturn, 1) := by decide +kernel
theorem dJ13_stringSize_95d88_0 : decode cJ13_stringSize_95d88 0 = .ok (.iconst 1, 1) := by decide +kernel
theorem dJ13_stringSize_95d88_1 : decode cJ13_stringSize_95d88 1 = .ok (.istore_n 2, 1) := by decide +kernel
theorem dJ13_stringSize_95d88_2 : decode cJ13_stringSize_95d88 2 = .ok (.lload_n 0, 1) := by decide +kernel
theorem dJ13_stringSize_95d88_3 : decode cJ13_stringSize_95d88 3 = .ok (.lconst 0, 1) := by decide +kernel
theorem dJ13_stringSize_95d88_4 : decode cJ13_stringSize_95d88 4 = .ok (.lcmp, 1) := by decide +kernel
theorem dJ13_stringSize_95d88_5 : decode cJ13_stringSize_95d88 5 = .ok (.ifCond .lt 8, 3) := by decide +kernel
theorem dJ13_stringSize_95d88_8 : decode cJ13_stringSize_95d88 8 = .ok (.iconst 0, 1) := by decide +kernel
theorem dJ13_stringSize_95d88_9 : decode cJ13_stringSize_95d88 9 = .ok (.istore_n 2, 1) := by decide +kernel
theorem dJ13_stringSize_95d88_10 : decode cJ13_stringSize_95d88 10 = .ok (.lload_n 0, 1) := by decide +kernel
theorem dJ13_stringSize_95d88_11 : decode cJ13_stringSize_95d88 11 = .ok (.lneg, 1) := by decide +kernel
theorem dJ13_stringSize_95d88_12 : decode cJ13_stringSize_95d88 12 = .ok (.lstore_n 0, 1) := by decide +kernel
theorem dJ13_stringSize_95d88_13 : decode cJ13_stringSize_95d88 13 = .ok (.ldc2_w 140, 3) := by decide +kernel
theorem dJ13_stringSize_95d88_16 : decode cJ13_stringSize_95d88 16 = .ok (.lstore_n 3, 1) := by decide +kernel
theorem dJ13_stringSize_95d88_17 : decode cJ13_stringSize_95d88 17 = .ok (.iconst 1, 1) := by decide +kernel
theorem dJ13_stringSize_95d88_18 : decode cJ13_stringSize_95d88 18 = .ok (.istore 5, 2) := by decide +kernel
theorem dJ13_stringSize_95d88_20 : decode cJ13_stringSize_95d88 20 = .ok (.iload 5, 2) := by decide +kernel
theorem dJ13_stringSize_95d88_22 : decode cJ13_stringSize_95d88 22 = .ok (.bipush 19, 2) := by decide +kernel
theorem dJ13_stringSize_95d88_24 : decode cJ13_stringSize_95d88 24 = .ok (.if_icmp .ge 26, 3) := by decide +kernel
theorem dJ13_stringSize_95d88_27 : decode cJ13_stringSize_95d88 27 = .ok (.lload_n 0, 1) := by decide +kernel
theorem dJ13_stringSize_95d88_28 : decode cJ13_stringSize_95d88 28 = .ok (.lload_n 3, 1) := by decide +kernel
theorem dJ13_stringSize_95d88_29 : decode cJ13_stringSize_95d88 29 = .ok (.lcmp, 1) := by decide +kernel
theorem dJ13_stringSize_95d88_30 : decode cJ13_stringSize_95d88 30 = .ok (.ifCond .le 8, 3) := by decide +kernel
theorem dJ13_stringSize_95d88_33 : decode cJ13_stringSize_95d88 33 = .ok (.iload 5, 2) := by decide +kernel
theorem dJ13_stringSize_95d88_35 : decode cJ13_stringSize_95d88 35 = .ok (.iload_n 2, 1) := by decide +kernel
theorem dJ13_stringSize_95d88_36 : decode cJ13_stringSize_95d88 36 = .ok (.iadd, 1) := by decide +kernel
theorem dJ13_stringSize_95d88_37 : decode cJ13_stringSize_95d88 37 = .ok (.ireturn, 1) := by decide +kernel
theorem dJ13_stringSize_95d88_38 : decode cJ13_stringSize_95d88 38 = .ok (.ldc2_w 53, 3) := by decide +kernel
theorem dJ13_stringSize_95d88_41 : decode cJ13_stringSize_95d88 41 = .ok (.lload_n 3, 1) := by decide +kernel
theorem dJ13_stringSize_95d88_42 : decode cJ13_stringSize_95d88 42 = .ok (.lmul, 1) := by decide +kernel
theorem dJ13_stringSize_95d88_43 : decode cJ13_stringSize_95d88 43 = .ok (.lstore_n 3, 1) := by decide +kernel
theorem dJ13_stringSize_95d88_44 : decode cJ13_stringSize_95d88 44 = .ok (.iinc 5 1, 3) := by decide +kernel
theorem dJ13_stringSize_95d88_47 : decode cJ13_stringSize_95d88 47 = .ok (.goto (-27), 3) := by decide +kernel
theorem dJ13_stringSize_95d88_50 : decode cJ13_stringSize_95d88 50 = .ok (.bipush 19, 2) := by decide +kernel
theorem dJ13_stringSize_95d88_52 : decode cJ13_stringSize_95d88 52 = .ok (.iload_n 2, 1) := by decide +kernel
theorem dJ13_stringSize_95d88_53 : decode cJ13_stringSize_95d88 53 = .ok (.iadd, 1) := by decide +kernel
theorem dJ13_stringSize_95d88_54 : decode cJ13_stringSize_95d88 54 = .ok (.ireturn, 1) := by decide +kernel
theorem dJ0_init_81219_0 : decode cJ0_init_81219 0 = .ok (.aload_n 0, 1) := by decide +kernel
theorem dJ0_init_81219_1 : decode cJ0_init_81219 1 = .ok (.aload_n 1, 1) := by decide +kernel
theorem dJ0_init_81219_2 : decode cJ0_init_81219 2 = .ok (.aconst_null, 1) := by decide +kernel
theorem dJ0_init_81219_3 : decode cJ0_init_81219 3 = .ok (.invokespecial 489, 3) := by decide +kernel
theorem dJ0_init_81219_6 : decode cJ0_init_81219 6 = .ok (.return_, 1) := by decide +kernel
theorem dJ0_length_8abf5_0 : decode cJ0_length_8abf5 0 = .ok (.aload_n 0, 1) := by decide +kernel
theorem dJ0_length_8abf5_1 : decode cJ0_length_8abf5 1 = .ok (.getfield 9, 3) := by decide +kernel
theorem dJ0_length_8abf5_4 : decode cJ0_length_8abf5 4 = .ok (.arraylength, 1) := by decide +kernel
theorem dJ0_length_8abf5_5 : decode cJ0_length_8abf5 5 = .ok (.aload_n 0, 1) := by decide +kernel
theorem dJ0_length_8abf5_6 : decode cJ0_length_8abf5 6 = .ok (.invokevirtual 335, 3) := by decide +kernel
theorem dJ0_length_8abf5_9 : decode cJ0_length_8abf5 9 = .ok (.ishr, 1) := by decide +kernel
theorem dJ0_length_8abf5_10 : decode cJ0_length_8abf5 10 = .ok (.ireturn, 1) := by decide +kernel
theorem dJ0_getBytes_840e7_0 : decode cJ0_getBytes_840e7 0 = .ok (.aload_n 0, 1) := by decide +kernel
theorem dJ0_getBytes_840e7_1 : decode cJ0_getBytes_840e7 1 = .ok (.invokevirtual 335, 3) := by decide +kernel
theorem dJ0_getBytes_840e7_4 : decode cJ0_getBytes_840e7 4 = .ok (.iload_n 3, 1) := by decide +kernel
theorem dJ0_getBytes_840e7_5 : decode cJ0_getBytes_840e7 5 = .ok (.if_icmp .ne 23, 3) := by decide +kernel
theorem dJ0_getBytes_840e7_8 : decode cJ0_getBytes_840e7 8 = .ok (.aload_n 0, 1) := by decide +kernel
theorem dJ0_getBytes_840e7_9 : decode cJ0_getBytes_840e7 9 = .ok (.getfield 9, 3) := by decide +kernel
theorem dJ0_getBytes_840e7_12 : decode cJ0_getBytes_840e7 12 = .ok (.iconst 0, 1) := by decide +kernel
theorem dJ0_getBytes_840e7_13 : decode cJ0_getBytes_840e7 13 = .ok (.aload_n 1, 1) := by decide +kernel
theorem dJ0_getBytes_840e7_14 : decode cJ0_getBytes_840e7 14 = .ok (.iload_n 2, 1) := by decide +kernel
theorem dJ0_getBytes_840e7_15 : decode cJ0_getBytes_840e7 15 = .ok (.iload_n 3, 1) := by decide +kernel
theorem dJ0_getBytes_840e7_16 : decode cJ0_getBytes_840e7 16 = .ok (.ishl, 1) := by decide +kernel
theorem dJ0_getBytes_840e7_17 : decode cJ0_getBytes_840e7 17 = .ok (.aload_n 0, 1) := by decide +kernel
theorem dJ0_getBytes_840e7_18 : decode cJ0_getBytes_840e7 18 = .ok (.getfield 9, 3) := by decide +kernel
theorem dJ0_getBytes_840e7_21 : decode cJ0_getBytes_840e7 21 = .ok (.arraylength, 1) := by decide +kernel
theorem dJ0_getBytes_840e7_22 : decode cJ0_getBytes_840e7 22 = .ok (.invokestatic 212, 3) := by decide +kernel
theorem dJ0_getBytes_840e7_25 : decode cJ0_getBytes_840e7 25 = .ok (.goto 18, 3) := by decide +kernel
theorem dJ0_getBytes_840e7_43 : decode cJ0_getBytes_840e7 43 = .ok (.return_, 1) := by decide +kernel
theorem dJ0_init_db425_0 : decode cJ0_init_db425 0 = .ok (.aload_n 0, 1) := by decide +kernel
theorem dJ0_init_db425_1 : decode cJ0_init_db425 1 = .ok (.invokespecial 1, 3) := by decide +kernel
theorem dJ0_init_db425_4 : decode cJ0_init_db425 4 = .ok (.aload_n 1, 1) := by decide +kernel
theorem dJ0_init_db425_5 : decode cJ0_init_db425 5 = .ok (.invokevirtual 552, 3) := by decide +kernel
theorem dJ0_init_db425_8 : decode cJ0_init_db425 8 = .ok (.astore_n 3, 1) := by decide +kernel
theorem dJ0_init_db425_9 : decode cJ0_init_db425 9 = .ok (.aload_n 1, 1) := by decide +kernel
theorem dJ0_init_db425_10 : decode cJ0_init_db425 10 = .ok (.invokevirtual 549, 3) := by decide +kernel
theorem dJ0_init_db425_13 : decode cJ0_init_db425 13 = .ok (.istore 4, 2) := by decide +kernel
theorem dJ0_init_db425_15 : decode cJ0_init_db425 15 = .ok (.aload_n 1, 1) := by decide +kernel
theorem dJ0_init_db425_16 : decode cJ0_init_db425 16 = .ok (.invokevirtual 1047, 3) := by decide +kernel
theorem dJ0_init_db425_19 : decode cJ0_init_db425 19 = .ok (.ifCond .eq 22, 3) := by decide +kernel
theorem dJ0_init_db425_22 : decode cJ0_init_db425 22 = .ok (.aload_n 0, 1) := by decide +kernel
theorem dJ0_init_db425_23 : decode cJ0_init_db425 23 = .ok (.iconst 0, 1) := by decide +kernel
theorem dJ0_init_db425_24 : decode cJ0_init_db425 24 = .ok (.putfield 15, 3) := by decide +kernel
theorem dJ0_init_db425_27 : decode cJ0_init_db425 27 = .ok (.aload_n 0, 1) := by decide +kernel
theorem dJ0_init_db425_28 : decode cJ0_init_db425 28 = .ok (.aload_n 3, 1) := by decide +kernel
theorem dJ0_init_db425_29 : decode cJ0_init_db425 29 = .ok (.iconst 0, 1) := by decide +kernel
theorem dJ0_init_db425_30 : decode cJ0_init_db425 30 = .ok (.iload 4, 2) := by decide +kernel
theorem dJ0_init_db425_32 : decode cJ0_init_db425 32 = .ok (.invokestatic 54, 3) := by decide +kernel
theorem dJ0_init_db425_35 : decode cJ0_init_db425 35 = .ok (.putfield 9, 3) := by decide +kernel
theorem dJ0_init_db425_38 : decode cJ0_init_db425 38 = .ok (.goto 59, 3) := by decide +kernel
theorem dJ0_init_db425_97 : decode cJ0_init_db425 97 = .ok (.return_, 1) := by decide +kernel
theorem dJ0_coder_7d493_0 : decode cJ0_coder_7d493 0 = .ok (.getstatic 38, 3) := by decide +kernel
theorem dJ0_coder_7d493_3 : decode cJ0_coder_7d493 3 = .ok (.ifCond .eq 10, 3) := by decide +kernel
theorem dJ0_coder_7d493_6 : decode cJ0_coder_7d493 6 = .ok (.aload_n 0, 1) := by decide +kernel
theorem dJ0_coder_7d493_7 : decode cJ0_coder_7d493 7 = .ok (.getfield 15, 3) := by decide +kernel
theorem dJ0_coder_7d493_10 : decode cJ0_coder_7d493 10 = .ok (.goto 4, 3) := by decide +kernel
theorem dJ0_coder_7d493_14 : decode cJ0_coder_7d493 14 = .ok (.ireturn, 1) := by decide +kernel
theorem dJ4_init_da8c8_0 : decode cJ4_init_da8c8 0 = .ok (.aload_n 0, 1) := by decide +kernel
theorem dJ4_init_da8c8_1 : decode cJ4_init_da8c8 1 = .ok (.bipush 16, 2) := by decide +kernel
theorem dJ4_init_da8c8_3 : decode cJ4_init_da8c8 3 = .ok (.invokespecial 1, 3) := by decide +kernel
theorem dJ4_init_da8c8_6 : decode cJ4_init_da8c8 6 = .ok (.return_, 1) := by decide +kernel
theorem dJ4_append_15ec4_0 : decode cJ4_append_15ec4 0 = .ok (.aload_n 0, 1) := by decide +kernel
theorem dJ4_append_15ec4_1 : decode cJ4_append_15ec4 1 = .ok (.aload_n 1, 1) := by decide +kernel
theorem dJ4_append_15ec4_2 : decode cJ4_append_15ec4 2 = .ok (.invokespecial 29, 3) := by decide +kernel
theorem dJ4_append_15ec4_5 : decode cJ4_append_15ec4 5 = .ok (.pop, 1) := by decide +kernel
theorem dJ4_append_15ec4_6 : decode cJ4_append_15ec4 6 = .ok (.aload_n 0, 1) := by decide +kernel
theorem dJ4_append_15ec4_7 : decode cJ4_append_15ec4 7 = .ok (.areturn, 1) := by decide +kernel
theorem dJ4_append_cf468_0 : decode cJ4_append_cf468 0 = .ok (.aload_n 0, 1) := by decide +kernel
theorem dJ4_append_cf468_1 : decode cJ4_append_cf468 1 = .ok (.iload_n 1, 1) := by decide +kernel
theorem dJ4_append_cf468_2 : decode cJ4_append_cf468 2 = .ok (.invokespecial 50, 3) := by decide +kernel
theorem dJ4_append_cf468_5 : decode cJ4_append_cf468 5 = .ok (.pop, 1) := by decide +kernel
theorem dJ4_append_cf468_6 : decode cJ4_append_cf468 6 = .ok (.aload_n 0, 1) := by decide +kernel
theorem dJ4_append_cf468_7 : decode cJ4_append_cf468 7 = .ok (.areturn, 1) := by decide +kernel
theorem dJ4_append_bf812_0 : decode cJ4_append_bf812 0 = .ok (.aload_n 0, 1) := by decide +kernel
theorem dJ4_append_bf812_1 : decode cJ4_append_bf812 1 = .ok (.iload_n 1, 1) := by decide +kernel
theorem dJ4_append_bf812_2 : decode cJ4_append_bf812 2 = .ok (.invokespecial 53, 3) := by decide +kernel
theorem dJ4_append_bf812_5 : decode cJ4_append_bf812 5 = .ok (.pop, 1) := by decide +kernel
theorem dJ4_append_bf812_6 : decode cJ4_append_bf812 6 = .ok (.aload_n 0, 1) := by decide +kernel
theorem dJ4_append_bf812_7 : decode cJ4_append_bf812 7 = .ok (.areturn, 1) := by decide +kernel
theorem dJ4_append_f7089_0 : decode cJ4_append_f7089 0 = .ok (.aload_n 0, 1) := by decide +kernel
theorem dJ4_append_f7089_1 : decode cJ4_append_f7089 1 = .ok (.lload_n 1, 1) := by decide +kernel
theorem dJ4_append_f7089_2 : decode cJ4_append_f7089 2 = .ok (.invokespecial 56, 3) := by decide +kernel
theorem dJ4_append_f7089_5 : decode cJ4_append_f7089 5 = .ok (.pop, 1) := by decide +kernel
theorem dJ4_append_f7089_6 : decode cJ4_append_f7089 6 = .ok (.aload_n 0, 1) := by decide +kernel
theorem dJ4_append_f7089_7 : decode cJ4_append_f7089 7 = .ok (.areturn, 1) := by decide +kernel
theorem dJ4_reverse_43fcb_0 : decode cJ4_reverse_43fcb 0 = .ok (.aload_n 0, 1) := by decide +kernel
theorem dJ4_reverse_43fcb_1 : decode cJ4_reverse_43fcb 1 = .ok (.invokespecial 127, 3) := by decide +kernel
theorem dJ4_reverse_43fcb_4 : decode cJ4_reverse_43fcb 4 = .ok (.pop, 1) := by decide +kernel
theorem dJ4_reverse_43fcb_5 : decode cJ4_reverse_43fcb 5 = .ok (.aload_n 0, 1) := by decide +kernel
theorem dJ4_reverse_43fcb_6 : decode cJ4_reverse_43fcb 6 = .ok (.areturn, 1) := by decide +kernel
theorem dJ4_toString_0e30d_0 : decode cJ4_toString_0e30d 0 = .ok (.new 18, 3) := by decide +kernel
theorem dJ4_toString_0e30d_3 : decode cJ4_toString_0e30d 3 = .ok (.dup, 1) := by decide +kernel
theorem dJ4_toString_0e30d_4 : decode cJ4_toString_0e30d 4 = .ok (.aload_n 0, 1) := by decide +kernel
theorem dJ4_toString_0e30d_5 : decode cJ4_toString_0e30d 5 = .ok (.invokespecial 137, 3) := by decide +kernel
theorem dJ4_toString_0e30d_8 : decode cJ4_toString_0e30d 8 = .ok (.areturn, 1) := by decide +kernel
theorem dJ4_length_8abf5_0 : decode cJ4_length_8abf5 0 = .ok (.aload_n 0, 1) := by decide +kernel
theorem dJ4_length_8abf5_1 : decode cJ4_length_8abf5 1 = .ok (.invokespecial 343, 3) := by decide +kernel
theorem dJ4_length_8abf5_4 : decode cJ4_length_8abf5 4 = .ok (.ireturn, 1) := by decide +kernel
theorem dJ1_canEncode_fc78d_0 : decode cJ1_canEncode_fc78d 0 = .ok (.iload_n 0, 1) := by decide +kernel
theorem dJ1_canEncode_fc78d_1 : decode cJ1_canEncode_fc78d 1 = .ok (.sipush 255, 3) := by decide +kernel
theorem dJ1_canEncode_fc78d_4 : decode cJ1_canEncode_fc78d 4 = .ok (.if_icmp .gt 7, 3) := by decide +kernel
theorem dJ1_canEncode_fc78d_7 : decode cJ1_canEncode_fc78d 7 = .ok (.iconst 1, 1) := by decide +kernel
theorem dJ1_canEncode_fc78d_8 : decode cJ1_canEncode_fc78d 8 = .ok (.goto 4, 3) := by decide +kernel
theorem dJ1_canEncode_fc78d_12 : decode cJ1_canEncode_fc78d 12 = .ok (.ireturn, 1) := by decide +kernel
theorem dJxa1e45_init_da8c8_0 : decode cJxa1e45_init_da8c8 0 = .ok (.aload_n 0, 1) := by decide +kernel
theorem dJxa1e45_init_da8c8_1 : decode cJxa1e45_init_da8c8 1 = .ok (.invokespecial 1, 3) := by decide +kernel
theorem dJxa1e45_init_da8c8_4 : decode cJxa1e45_init_da8c8 4 = .ok (.return_, 1) := by decide +kernel
theorem dJxc12de_init_da8c8_0 : decode cJxc12de_init_da8c8 0 = .ok (.aload_n 0, 1) := by decide +kernel
theorem dJxc12de_init_da8c8_1 : decode cJxc12de_init_da8c8 1 = .ok (.invokespecial 1, 3) := by decide +kernel
theorem dJxc12de_init_da8c8_4 : decode cJxc12de_init_da8c8 4 = .ok (.aload_n 0, 1) := by decide +kernel
theorem dJxc12de_init_da8c8_5 : decode cJxc12de_init_da8c8 5 = .ok (.iconst 0, 1) := by decide +kernel
theorem dJxc12de_init_da8c8_6 : decode cJxc12de_init_da8c8 6 = .ok (.putfield 7, 3) := by decide +kernel
theorem dJxc12de_init_da8c8_9 : decode cJxc12de_init_da8c8 9 = .ok (.return_, 1) := by decide +kernel
theorem dJx4a65c_init_da8c8_0 : decode cJx4a65c_init_da8c8 0 = .ok (.aload_n 0, 1) := by decide +kernel
theorem dJx4a65c_init_da8c8_1 : decode cJx4a65c_init_da8c8 1 = .ok (.invokespecial 1, 3) := by decide +kernel
theorem dJx4a65c_init_da8c8_4 : decode cJx4a65c_init_da8c8 4 = .ok (.aload_n 0, 1) := by decide +kernel
theorem dJx4a65c_init_da8c8_5 : decode cJx4a65c_init_da8c8 5 = .ok (.getstatic 39, 3) := by decide +kernel
theorem dJx4a65c_init_da8c8_8 : decode cJx4a65c_init_da8c8 8 = .ok (.putfield 9, 3) := by decide +kernel
theorem dJx4a65c_init_da8c8_11 : decode cJx4a65c_init_da8c8 11 = .ok (.return_, 1) := by decide +kernel
theorem dJx4a65c_grow_92f84_0 : decode cJx4a65c_grow_92f84 0 = .ok (.aload_n 0, 1) := by decide +kernel
theorem dJx4a65c_grow_92f84_1 : decode cJx4a65c_grow_92f84 1 = .ok (.getfield 9, 3) := by decide +kernel
theorem dJx4a65c_grow_92f84_4 : decode cJx4a65c_grow_92f84 4 = .ok (.arraylength, 1) := by decide +kernel
theorem dJx4a65c_grow_92f84_5 : decode cJx4a65c_grow_92f84 5 = .ok (.istore_n 2, 1) := by decide +kernel
theorem dJx4a65c_grow_92f84_6 : decode cJx4a65c_grow_92f84 6 = .ok (.iload_n 2, 1) := by decide +kernel
theorem dJx4a65c_grow_92f84_7 : decode cJx4a65c_grow_92f84 7 = .ok (.ifCond .gt 13, 3) := by decide +kernel
theorem dJx4a65c_grow_92f84_10 : decode cJx4a65c_grow_92f84 10 = .ok (.aload_n 0, 1) := by decide +kernel
theorem dJx4a65c_grow_92f84_11 : decode cJx4a65c_grow_92f84 11 = .ok (.getfield 9, 3) := by decide +kernel
theorem dJx4a65c_grow_92f84_14 : decode cJx4a65c_grow_92f84 14 = .ok (.getstatic 39, 3) := by decide +kernel
theorem dJx4a65c_grow_92f84_17 : decode cJx4a65c_grow_92f84 17 = .ok (.if_acmp .eq 28, 3) := by decide +kernel
theorem dJx4a65c_grow_92f84_45 : decode cJx4a65c_grow_92f84 45 = .ok (.aload_n 0, 1) := by decide +kernel
theorem dJx4a65c_grow_92f84_46 : decode cJx4a65c_grow_92f84 46 = .ok (.bipush 10, 2) := by decide +kernel
theorem dJx4a65c_grow_92f84_48 : decode cJx4a65c_grow_92f84 48 = .ok (.iload_n 1, 1) := by decide +kernel
theorem dJx4a65c_grow_92f84_49 : decode cJx4a65c_grow_92f84 49 = .ok (.invokestatic 79, 3) := by decide +kernel
theorem dJx4a65c_grow_92f84_52 : decode cJx4a65c_grow_92f84 52 = .ok (.anewarray 7, 3) := by decide +kernel
theorem dJx4a65c_grow_92f84_55 : decode cJx4a65c_grow_92f84 55 = .ok (.dup_x1, 1) := by decide +kernel
theorem dJx4a65c_grow_92f84_56 : decode cJx4a65c_grow_92f84 56 = .ok (.putfield 9, 3) := by decide +kernel
theorem dJx4a65c_grow_92f84_59 : decode cJx4a65c_grow_92f84 59 = .ok (.areturn, 1) := by decide +kernel
theorem dJx4a65c_grow_d5877_0 : decode cJx4a65c_grow_d5877 0 = .ok (.aload_n 0, 1) := by decide +kernel
theorem dJx4a65c_grow_d5877_1 : decode cJx4a65c_grow_d5877 1 = .ok (.aload_n 0, 1) := by decide +kernel
theorem dJx4a65c_grow_d5877_2 : decode cJx4a65c_grow_d5877 2 = .ok (.getfield 48, 3) := by decide +kernel
theorem dJx4a65c_grow_d5877_5 : decode cJx4a65c_grow_d5877 5 = .ok (.iconst 1, 1) := by decide +kernel
theorem dJx4a65c_grow_d5877_6 : decode cJx4a65c_grow_d5877 6 = .ok (.iadd, 1) := by decide +kernel
theorem dJx4a65c_grow_d5877_7 : decode cJx4a65c_grow_d5877 7 = .ok (.invokevirtual 69, 3) := by decide +kernel
theorem dJx4a65c_grow_d5877_10 : decode cJx4a65c_grow_d5877 10 = .ok (.areturn, 1) := by decide +kernel
theorem dJx4a65c_size_8abf5_0 : decode cJx4a65c_size_8abf5 0 = .ok (.aload_n 0, 1) := by decide +kernel
theorem dJx4a65c_size_8abf5_1 : decode cJx4a65c_size_8abf5 1 = .ok (.getfield 48, 3) := by decide +kernel
theorem dJx4a65c_size_8abf5_4 : decode cJx4a65c_size_8abf5 4 = .ok (.ireturn, 1) := by decide +kernel
theorem dJx4a65c_isEmpty_aae02_0 : decode cJx4a65c_isEmpty_aae02 0 = .ok (.aload_n 0, 1) := by decide +kernel
theorem dJx4a65c_isEmpty_aae02_1 : decode cJx4a65c_isEmpty_aae02 1 = .ok (.getfield 48, 3) := by decide +kernel
theorem dJx4a65c_isEmpty_aae02_4 : decode cJx4a65c_isEmpty_aae02 4 = .ok (.ifCond .ne 7, 3) := by decide +kernel
theorem dJx4a65c_isEmpty_aae02_7 : decode cJx4a65c_isEmpty_aae02 7 = .ok (.iconst 1, 1) := by decide +kernel
theorem dJx4a65c_isEmpty_aae02_8 : decode cJx4a65c_isEmpty_aae02 8 = .ok (.goto 4, 3) := by decide +kernel
theorem dJx4a65c_isEmpty_aae02_11 : decode cJx4a65c_isEmpty_aae02 11 = .ok (.iconst 0, 1) := by decide +kernel
theorem dJx4a65c_isEmpty_aae02_12 : decode cJx4a65c_isEmpty_aae02 12 = .ok (.ireturn, 1) := by decide +kernel
theorem dJx4a65c_elementData_915e3_0 : decode cJx4a65c_elementData_915e3 0 = .ok (.aload_n 0, 1) := by decide +kernel
theorem dJx4a65c_elementData_915e3_1 : decode cJx4a65c_elementData_915e3 1 = .ok (.getfield 9, 3) := by decide +kernel
theorem dJx4a65c_elementData_915e3_4 : decode cJx4a65c_elementData_915e3 4 = .ok (.iload_n 1, 1) := by decide +kernel
theorem dJx4a65c_elementData_915e3_5 : decode cJx4a65c_elementData_915e3 5 = .ok (.aaload, 1) := by decide +kernel
theorem dJx4a65c_elementData_915e3_6 : decode cJx4a65c_elementData_915e3 6 = .ok (.areturn, 1) := by decide +kernel
theorem dJx4a65c_get_915e3_0 : decode cJx4a65c_get_915e3 0 = .ok (.iload_n 1, 1) := by decide +kernel
theorem dJx4a65c_get_915e3_1 : decode cJx4a65c_get_915e3 1 = .ok (.aload_n 0, 1) := by decide +kernel
theorem dJx4a65c_get_915e3_2 : decode cJx4a65c_get_915e3 2 = .ok (.getfield 48, 3) := by decide +kernel
theorem dJx4a65c_get_915e3_5 : decode cJx4a65c_get_915e3 5 = .ok (.invokestatic 118, 3) := by decide +kernel
theorem dJx4a65c_get_915e3_8 : decode cJx4a65c_get_915e3 8 = .ok (.pop, 1) := by decide +kernel
theorem dJx4a65c_get_915e3_9 : decode cJx4a65c_get_915e3 9 = .ok (.aload_n 0, 1) := by decide +kernel
theorem dJx4a65c_get_915e3_10 : decode cJx4a65c_get_915e3 10 = .ok (.iload_n 1, 1) := by decide +kernel
theorem dJx4a65c_get_915e3_11 : decode cJx4a65c_get_915e3 11 = .ok (.invokevirtual 123, 3) := by decide +kernel
theorem dJx4a65c_get_915e3_14 : decode cJx4a65c_get_915e3 14 = .ok (.areturn, 1) := by decide +kernel
theorem dJx4a65c_add_72be8_0 : decode cJx4a65c_add_72be8 0 = .ok (.iload_n 3, 1) := by decide +kernel
theorem dJx4a65c_add_72be8_1 : decode cJx4a65c_add_72be8 1 = .ok (.aload_n 2, 1) := by decide +kernel
theorem dJx4a65c_add_72be8_2 : decode cJx4a65c_add_72be8 2 = .ok (.arraylength, 1) := by decide +kernel
theorem dJx4a65c_add_72be8_3 : decode cJx4a65c_add_72be8 3 = .ok (.if_icmp .ne 8, 3) := by decide +kernel
theorem dJx4a65c_add_72be8_6 : decode cJx4a65c_add_72be8 6 = .ok (.aload_n 0, 1) := by decide +kernel
theorem dJx4a65c_add_72be8_7 : decode cJx4a65c_add_72be8 7 = .ok (.invokevirtual 129, 3) := by decide +kernel
theorem dJx4a65c_add_72be8_10 : decode cJx4a65c_add_72be8 10 = .ok (.astore_n 2, 1) := by decide +kernel
theorem dJx4a65c_add_72be8_11 : decode cJx4a65c_add_72be8 11 = .ok (.aload_n 2, 1) := by decide +kernel
theorem dJx4a65c_add_72be8_12 : decode cJx4a65c_add_72be8 12 = .ok (.iload_n 3, 1) := by decide +kernel
theorem dJx4a65c_add_72be8_13 : decode cJx4a65c_add_72be8 13 = .ok (.aload_n 1, 1) := by decide +kernel
theorem dJx4a65c_add_72be8_14 : decode cJx4a65c_add_72be8 14 = .ok (.aastore, 1) := by decide +kernel
theorem dJx4a65c_add_72be8_15 : decode cJx4a65c_add_72be8 15 = .ok (.aload_n 0, 1) := by decide +kernel
theorem dJx4a65c_add_72be8_16 : decode cJx4a65c_add_72be8 16 = .ok (.iload_n 3, 1) := by decide +kernel
theorem dJx4a65c_add_72be8_17 : decode cJx4a65c_add_72be8 17 = .ok (.iconst 1, 1) := by decide +kernel
theorem dJx4a65c_add_72be8_18 : decode cJx4a65c_add_72be8 18 = .ok (.iadd, 1) := by decide +kernel
theorem dJx4a65c_add_72be8_19 : decode cJx4a65c_add_72be8 19 = .ok (.putfield 48, 3) := by decide +kernel
theorem dJx4a65c_add_72be8_22 : decode cJx4a65c_add_72be8 22 = .ok (.return_, 1) := by decide +kernel
theorem dJx4a65c_add_9ea2d_0 : decode cJx4a65c_add_9ea2d 0 = .ok (.aload_n 0, 1) := by decide +kernel
theorem dJx4a65c_add_9ea2d_1 : decode cJx4a65c_add_9ea2d 1 = .ok (.dup, 1) := by decide +kernel
theorem dJx4a65c_add_9ea2d_2 : decode cJx4a65c_add_9ea2d 2 = .ok (.getfield 63, 3) := by decide +kernel
theorem dJx4a65c_add_9ea2d_5 : decode cJx4a65c_add_9ea2d 5 = .ok (.iconst 1, 1) := by decide +kernel
theorem dJx4a65c_add_9ea2d_6 : decode cJx4a65c_add_9ea2d 6 = .ok (.iadd, 1) := by decide +kernel
theorem dJx4a65c_add_9ea2d_7 : decode cJx4a65c_add_9ea2d 7 = .ok (.putfield 63, 3) := by decide +kernel
theorem dJx4a65c_add_9ea2d_10 : decode cJx4a65c_add_9ea2d 10 = .ok (.aload_n 0, 1) := by decide +kernel
theorem dJx4a65c_add_9ea2d_11 : decode cJx4a65c_add_9ea2d 11 = .ok (.aload_n 1, 1) := by decide +kernel
theorem dJx4a65c_add_9ea2d_12 : decode cJx4a65c_add_9ea2d 12 = .ok (.aload_n 0, 1) := by decide +kernel
theorem dJx4a65c_add_9ea2d_13 : decode cJx4a65c_add_9ea2d 13 = .ok (.getfield 9, 3) := by decide +kernel
theorem dJx4a65c_add_9ea2d_16 : decode cJx4a65c_add_9ea2d 16 = .ok (.aload_n 0, 1) := by decide +kernel
theorem dJx4a65c_add_9ea2d_17 : decode cJx4a65c_add_9ea2d 17 = .ok (.getfield 48, 3) := by decide +kernel
theorem dJx4a65c_add_9ea2d_20 : decode cJx4a65c_add_9ea2d 20 = .ok (.invokevirtual 131, 3) := by decide +kernel
theorem dJx4a65c_add_9ea2d_23 : decode cJx4a65c_add_9ea2d 23 = .ok (.iconst 1, 1) := by decide +kernel
theorem dJx4a65c_add_9ea2d_24 : decode cJx4a65c_add_9ea2d 24 = .ok (.ireturn, 1) := by decide +kernel
theorem dJx4a65c_remove_915e3_0 : decode cJx4a65c_remove_915e3 0 = .ok (.iload_n 1, 1) := by decide +kernel
theorem dJx4a65c_remove_915e3_1 : decode cJx4a65c_remove_915e3 1 = .ok (.aload_n 0, 1) := by decide +kernel
theorem dJx4a65c_remove_915e3_2 : decode cJx4a65c_remove_915e3 2 = .ok (.getfield 48, 3) := by decide +kernel
theorem dJx4a65c_remove_915e3_5 : decode cJx4a65c_remove_915e3 5 = .ok (.invokestatic 118, 3) := by decide +kernel
theorem dJx4a65c_remove_915e3_8 : decode cJx4a65c_remove_915e3 8 = .ok (.pop, 1) := by decide +kernel
theorem dJx4a65c_remove_915e3_9 : decode cJx4a65c_remove_915e3 9 = .ok (.aload_n 0, 1) := by decide +kernel
theorem dJx4a65c_remove_915e3_10 : decode cJx4a65c_remove_915e3 10 = .ok (.getfield 9, 3) := by decide +kernel
theorem dJx4a65c_remove_915e3_13 : decode cJx4a65c_remove_915e3 13 = .ok (.astore_n 2, 1) := by decide +kernel
theorem dJx4a65c_remove_915e3_14 : decode cJx4a65c_remove_915e3 14 = .ok (.aload_n 2, 1) := by decide +kernel
theorem dJx4a65c_remove_915e3_15 : decode cJx4a65c_remove_915e3 15 = .ok (.iload_n 1, 1) := by decide +kernel
theorem dJx4a65c_remove_915e3_16 : decode cJx4a65c_remove_915e3 16 = .ok (.aaload, 1) := by decide +kernel
theorem dJx4a65c_remove_915e3_17 : decode cJx4a65c_remove_915e3 17 = .ok (.astore_n 3, 1) := by decide +kernel
theorem dJx4a65c_remove_915e3_18 : decode cJx4a65c_remove_915e3 18 = .ok (.aload_n 0, 1) := by decide +kernel
theorem dJx4a65c_remove_915e3_19 : decode cJx4a65c_remove_915e3 19 = .ok (.aload_n 2, 1) := by decide +kernel
theorem dJx4a65c_remove_915e3_20 : decode cJx4a65c_remove_915e3 20 = .ok (.iload_n 1, 1) := by decide +kernel
theorem dJx4a65c_remove_915e3_21 : decode cJx4a65c_remove_915e3 21 = .ok (.invokevirtual 144, 3) := by decide +kernel
theorem dJx4a65c_remove_915e3_24 : decode cJx4a65c_remove_915e3 24 = .ok (.aload_n 3, 1) := by decide +kernel
theorem dJx4a65c_remove_915e3_25 : decode cJx4a65c_remove_915e3 25 = .ok (.areturn, 1) := by decide +kernel
theorem dJx4a65c_fastRemove_b59b0_0 : decode cJx4a65c_fastRemove_b59b0 0 = .ok (.aload_n 0, 1) := by decide +kernel
theorem dJx4a65c_fastRemove_b59b0_1 : decode cJx4a65c_fastRemove_b59b0 1 = .ok (.dup, 1) := by decide +kernel
theorem dJx4a65c_fastRemove_b59b0_2 : decode cJx4a65c_fastRemove_b59b0 2 = .ok (.getfield 63, 3) := by decide +kernel
theorem dJx4a65c_fastRemove_b59b0_5 : decode cJx4a65c_fastRemove_b59b0 5 = .ok (.iconst 1, 1) := by decide +kernel
theorem dJx4a65c_fastRemove_b59b0_6 : decode cJx4a65c_fastRemove_b59b0 6 = .ok (.iadd, 1) := by decide +kernel
theorem dJx4a65c_fastRemove_b59b0_7 : decode cJx4a65c_fastRemove_b59b0 7 = .ok (.putfield 63, 3) := by decide +kernel
theorem dJx4a65c_fastRemove_b59b0_10 : decode cJx4a65c_fastRemove_b59b0 10 = .ok (.aload_n 0, 1) := by decide +kernel
theorem dJx4a65c_fastRemove_b59b0_11 : decode cJx4a65c_fastRemove_b59b0 11 = .ok (.getfield 48, 3) := by decide +kernel
theorem dJx4a65c_fastRemove_b59b0_14 : decode cJx4a65c_fastRemove_b59b0 14 = .ok (.iconst 1, 1) := by decide +kernel
theorem dJx4a65c_fastRemove_b59b0_15 : decode cJx4a65c_fastRemove_b59b0 15 = .ok (.isub, 1) := by decide +kernel
theorem dJx4a65c_fastRemove_b59b0_16 : decode cJx4a65c_fastRemove_b59b0 16 = .ok (.dup, 1) := by decide +kernel
theorem dJx4a65c_fastRemove_b59b0_17 : decode cJx4a65c_fastRemove_b59b0 17 = .ok (.istore_n 3, 1) := by decide +kernel
theorem dJx4a65c_fastRemove_b59b0_18 : decode cJx4a65c_fastRemove_b59b0 18 = .ok (.iload_n 2, 1) := by decide +kernel
theorem dJx4a65c_fastRemove_b59b0_19 : decode cJx4a65c_fastRemove_b59b0 19 = .ok (.if_icmp .le 15, 3) := by decide +kernel
theorem dJx4a65c_fastRemove_b59b0_34 : decode cJx4a65c_fastRemove_b59b0 34 = .ok (.aload_n 1, 1) := by decide +kernel
theorem dJx4a65c_fastRemove_b59b0_35 : decode cJx4a65c_fastRemove_b59b0 35 = .ok (.aload_n 0, 1) := by decide +kernel
theorem dJx4a65c_fastRemove_b59b0_36 : decode cJx4a65c_fastRemove_b59b0 36 = .ok (.iload_n 3, 1) := by decide +kernel
theorem dJx4a65c_fastRemove_b59b0_37 : decode cJx4a65c_fastRemove_b59b0 37 = .ok (.dup_x1, 1) := by decide +kernel
theorem dJx4a65c_fastRemove_b59b0_38 : decode cJx4a65c_fastRemove_b59b0 38 = .ok (.putfield 48, 3) := by decide +kernel
theorem dJx4a65c_fastRemove_b59b0_41 : decode cJx4a65c_fastRemove_b59b0 41 = .ok (.aconst_null, 1) := by decide +kernel
theorem dJx4a65c_fastRemove_b59b0_42 : decode cJx4a65c_fastRemove_b59b0 42 = .ok (.aastore, 1) := by decide +kernel
theorem dJx4a65c_fastRemove_b59b0_43 : decode cJx4a65c_fastRemove_b59b0 43 = .ok (.return_, 1) := by decide +kernel
theorem dJ7_copyOf_9075b_0 : decode cJ7_copyOf_9075b 0 = .ok (.iload_n 1, 1) := by decide +kernel
theorem dJ7_copyOf_9075b_1 : decode cJ7_copyOf_9075b 1 = .ok (.aload_n 0, 1) := by decide +kernel
theorem dJ7_copyOf_9075b_2 : decode cJ7_copyOf_9075b 2 = .ok (.arraylength, 1) := by decide +kernel
theorem dJ7_copyOf_9075b_3 : decode cJ7_copyOf_9075b 3 = .ok (.if_icmp .ne 11, 3) := by decide +kernel
theorem dJ7_copyOf_9075b_14 : decode cJ7_copyOf_9075b 14 = .ok (.iload_n 1, 1) := by decide +kernel
theorem dJ7_copyOf_9075b_15 : decode cJ7_copyOf_9075b 15 = .ok (.newarray .byte, 2) := by decide +kernel
theorem dJ7_copyOf_9075b_17 : decode cJ7_copyOf_9075b 17 = .ok (.astore_n 2, 1) := by decide +kernel
theorem dJ7_copyOf_9075b_18 : decode cJ7_copyOf_9075b 18 = .ok (.aload_n 0, 1) := by decide +kernel
theorem dJ7_copyOf_9075b_19 : decode cJ7_copyOf_9075b 19 = .ok (.iconst 0, 1) := by decide +kernel
theorem dJ7_copyOf_9075b_20 : decode cJ7_copyOf_9075b 20 = .ok (.aload_n 2, 1) := by decide +kernel
theorem dJ7_copyOf_9075b_21 : decode cJ7_copyOf_9075b 21 = .ok (.iconst 0, 1) := by decide +kernel
theorem dJ7_copyOf_9075b_22 : decode cJ7_copyOf_9075b 22 = .ok (.aload_n 0, 1) := by decide +kernel
theorem dJ7_copyOf_9075b_23 : decode cJ7_copyOf_9075b 23 = .ok (.arraylength, 1) := by decide +kernel
theorem dJ7_copyOf_9075b_24 : decode cJ7_copyOf_9075b 24 = .ok (.iload_n 1, 1) := by decide +kernel
theorem dJ7_copyOf_9075b_25 : decode cJ7_copyOf_9075b 25 = .ok (.invokestatic 304, 3) := by decide +kernel
theorem dJ7_copyOf_9075b_28 : decode cJ7_copyOf_9075b 28 = .ok (.invokestatic 150, 3) := by decide +kernel
theorem dJ7_copyOf_9075b_31 : decode cJ7_copyOf_9075b 31 = .ok (.aload_n 2, 1) := by decide +kernel
theorem dJ7_copyOf_9075b_32 : decode cJ7_copyOf_9075b 32 = .ok (.areturn, 1) := by decide +kernel
theorem dJ7_checkLength_df160_0 : decode cJ7_checkLength_df160 0 = .ok (.iload_n 1, 1) := by decide +kernel
theorem dJ7_checkLength_df160_1 : decode cJ7_checkLength_df160 1 = .ok (.iload_n 0, 1) := by decide +kernel
theorem dJ7_checkLength_df160_2 : decode cJ7_checkLength_df160 2 = .ok (.if_icmp .ge 35, 3) := by decide +kernel
theorem dJ7_checkLength_df160_37 : decode cJ7_checkLength_df160 37 = .ok (.return_, 1) := by decide +kernel
theorem dJ7_copyOfRange_39247_0 : decode cJ7_copyOfRange_39247 0 = .ok (.iload_n 1, 1) := by decide +kernel
theorem dJ7_copyOfRange_39247_1 : decode cJ7_copyOfRange_39247 1 = .ok (.ifCond .ne 9, 3) := by decide +kernel
theorem dJ7_copyOfRange_39247_4 : decode cJ7_copyOfRange_39247 4 = .ok (.iload_n 2, 1) := by decide +kernel
theorem dJ7_copyOfRange_39247_5 : decode cJ7_copyOfRange_39247 5 = .ok (.aload_n 0, 1) := by decide +kernel
theorem dJ7_copyOfRange_39247_6 : decode cJ7_copyOfRange_39247 6 = .ok (.arraylength, 1) := by decide +kernel
theorem dJ7_copyOfRange_39247_7 : decode cJ7_copyOfRange_39247 7 = .ok (.if_icmp .eq 10, 3) := by decide +kernel
theorem dJ7_copyOfRange_39247_10 : decode cJ7_copyOfRange_39247 10 = .ok (.aload_n 0, 1) := by decide +kernel
theorem dJ7_copyOfRange_39247_11 : decode cJ7_copyOfRange_39247 11 = .ok (.iload_n 1, 1) := by decide +kernel
theorem dJ7_copyOfRange_39247_12 : decode cJ7_copyOfRange_39247 12 = .ok (.iload_n 2, 1) := by decide +kernel
theorem dJ7_copyOfRange_39247_13 : decode cJ7_copyOfRange_39247 13 = .ok (.invokestatic 339, 3) := by decide +kernel
theorem dJ7_copyOfRange_39247_16 : decode cJ7_copyOfRange_39247 16 = .ok (.areturn, 1) := by decide +kernel
theorem dJ7_copyOfRange_39247_17 : decode cJ7_copyOfRange_39247 17 = .ok (.aload_n 0, 1) := by decide +kernel
theorem dJ7_copyOfRange_39247_18 : decode cJ7_copyOfRange_39247 18 = .ok (.invokevirtual 310, 3) := by decide +kernel
theorem dJ7_copyOfRange_39247_21 : decode cJ7_copyOfRange_39247 21 = .ok (.checkcast 311, 3) := by decide +kernel
theorem dJ7_copyOfRange_39247_24 : decode cJ7_copyOfRange_39247 24 = .ok (.areturn, 1) := by decide +kernel
theorem dJ7_copyOfRangeByte_39247_0 : decode cJ7_copyOfRangeByte_39247 0 = .ok (.iload_n 1, 1) := by decide +kernel
theorem dJ7_copyOfRangeByte_39247_1 : decode cJ7_copyOfRangeByte_39247 1 = .ok (.iload_n 2, 1) := by decide +kernel
theorem dJ7_copyOfRangeByte_39247_2 : decode cJ7_copyOfRangeByte_39247 2 = .ok (.invokestatic 343, 3) := by decide +kernel
theorem dJ7_copyOfRangeByte_39247_5 : decode cJ7_copyOfRangeByte_39247 5 = .ok (.iload_n 2, 1) := by decide +kernel
theorem dJ7_copyOfRangeByte_39247_6 : decode cJ7_copyOfRangeByte_39247 6 = .ok (.iload_n 1, 1) := by decide +kernel
theorem dJ7_copyOfRangeByte_39247_7 : decode cJ7_copyOfRangeByte_39247 7 = .ok (.isub, 1) := by decide +kernel
theorem dJ7_copyOfRangeByte_39247_8 : decode cJ7_copyOfRangeByte_39247 8 = .ok (.istore_n 3, 1) := by decide +kernel
theorem dJ7_copyOfRangeByte_39247_9 : decode cJ7_copyOfRangeByte_39247 9 = .ok (.iload_n 3, 1) := by decide +kernel
theorem dJ7_copyOfRangeByte_39247_10 : decode cJ7_copyOfRangeByte_39247 10 = .ok (.newarray .byte, 2) := by decide +kernel
theorem dJ7_copyOfRangeByte_39247_12 : decode cJ7_copyOfRangeByte_39247 12 = .ok (.astore 4, 2) := by decide +kernel
theorem dJ7_copyOfRangeByte_39247_14 : decode cJ7_copyOfRangeByte_39247 14 = .ok (.aload_n 0, 1) := by decide +kernel
theorem dJ7_copyOfRangeByte_39247_15 : decode cJ7_copyOfRangeByte_39247 15 = .ok (.iload_n 1, 1) := by decide +kernel
theorem dJ7_copyOfRangeByte_39247_16 : decode cJ7_copyOfRangeByte_39247 16 = .ok (.aload 4, 2) := by decide +kernel
theorem dJ7_copyOfRangeByte_39247_18 : decode cJ7_copyOfRangeByte_39247 18 = .ok (.iconst 0, 1) := by decide +kernel
theorem dJ7_copyOfRangeByte_39247_19 : decode cJ7_copyOfRangeByte_39247 19 = .ok (.aload_n 0, 1) := by decide +kernel
theorem dJ7_copyOfRangeByte_39247_20 : decode cJ7_copyOfRangeByte_39247 20 = .ok (.arraylength, 1) := by decide +kernel
theorem dJ7_copyOfRangeByte_39247_21 : decode cJ7_copyOfRangeByte_39247 21 = .ok (.iload_n 1, 1) := by decide +kernel
theorem dJ7_copyOfRangeByte_39247_22 : decode cJ7_copyOfRangeByte_39247 22 = .ok (.isub, 1) := by decide +kernel
theorem dJ7_copyOfRangeByte_39247_23 : decode cJ7_copyOfRangeByte_39247 23 = .ok (.iload_n 3, 1) := by decide +kernel
theorem dJ7_copyOfRangeByte_39247_24 : decode cJ7_copyOfRangeByte_39247 24 = .ok (.invokestatic 304, 3) := by decide +kernel
theorem dJ7_copyOfRangeByte_39247_27 : decode cJ7_copyOfRangeByte_39247 27 = .ok (.invokestatic 150, 3) := by decide +kernel
theorem dJ7_copyOfRangeByte_39247_30 : decode cJ7_copyOfRangeByte_39247 30 = .ok (.aload 4, 2) := by decide +kernel
theorem dJ7_copyOfRangeByte_39247_32 : decode cJ7_copyOfRangeByte_39247 32 = .ok (.areturn, 1) := by decide +kernel
theorem dJ15_checkIndex_7cf53_0 : decode cJ15_checkIndex_7cf53 0 = .ok (.iload_n 0, 1) := by decide +kernel
theorem dJ15_checkIndex_7cf53_1 : decode cJ15_checkIndex_7cf53 1 = .ok (.iload_n 1, 1) := by decide +kernel
theorem dJ15_checkIndex_7cf53_2 : decode cJ15_checkIndex_7cf53 2 = .ok (.aconst_null, 1) := by decide +kernel
theorem dJ15_checkIndex_7cf53_3 : decode cJ15_checkIndex_7cf53 3 = .ok (.invokestatic 105, 3) := by decide +kernel
theorem dJ15_checkIndex_7cf53_6 : decode cJ15_checkIndex_7cf53 6 = .ok (.ireturn, 1) := by decide +kernel
theorem dJ8_newLength_cabcc_0 : decode cJ8_newLength_cabcc 0 = .ok (.iload_n 0, 1) := by decide +kernel
theorem dJ8_newLength_cabcc_1 : decode cJ8_newLength_cabcc 1 = .ok (.iload_n 1, 1) := by decide +kernel
theorem dJ8_newLength_cabcc_2 : decode cJ8_newLength_cabcc 2 = .ok (.iload_n 2, 1) := by decide +kernel
theorem dJ8_newLength_cabcc_3 : decode cJ8_newLength_cabcc 3 = .ok (.invokestatic 194, 3) := by decide +kernel
theorem dJ8_newLength_cabcc_6 : decode cJ8_newLength_cabcc 6 = .ok (.iadd, 1) := by decide +kernel
theorem dJ8_newLength_cabcc_7 : decode cJ8_newLength_cabcc 7 = .ok (.istore_n 3, 1) := by decide +kernel
theorem dJ8_newLength_cabcc_8 : decode cJ8_newLength_cabcc 8 = .ok (.iconst 0, 1) := by decide +kernel
theorem dJ8_newLength_cabcc_9 : decode cJ8_newLength_cabcc 9 = .ok (.iload_n 3, 1) := by decide +kernel
theorem dJ8_newLength_cabcc_10 : decode cJ8_newLength_cabcc 10 = .ok (.if_icmp .ge 11, 3) := by decide +kernel
theorem dJ8_newLength_cabcc_13 : decode cJ8_newLength_cabcc 13 = .ok (.iload_n 3, 1) := by decide +kernel
theorem dJ8_newLength_cabcc_14 : decode cJ8_newLength_cabcc 14 = .ok (.ldc 200, 2) := by decide +kernel
theorem dJ8_newLength_cabcc_16 : decode cJ8_newLength_cabcc 16 = .ok (.if_icmp .gt 5, 3) := by decide +kernel
theorem dJ8_newLength_cabcc_19 : decode cJ8_newLength_cabcc 19 = .ok (.iload_n 3, 1) := by decide +kernel
theorem dJ8_newLength_cabcc_20 : decode cJ8_newLength_cabcc 20 = .ok (.ireturn, 1) := by decide +kernel
theorem dJ3_checkIndex_8e157_0 : decode cJ3_checkIndex_8e157 0 = .ok (.iload_n 0, 1) := by decide +kernel
theorem dJ3_checkIndex_8e157_1 : decode cJ3_checkIndex_8e157 1 = .ok (.ifCond .lt 8, 3) := by decide +kernel
theorem dJ3_checkIndex_8e157_4 : decode cJ3_checkIndex_8e157 4 = .ok (.iload_n 0, 1) := by decide +kernel
theorem dJ3_checkIndex_8e157_5 : decode cJ3_checkIndex_8e157 5 = .ok (.iload_n 1, 1) := by decide +kernel
theorem dJ3_checkIndex_8e157_6 : decode cJ3_checkIndex_8e157 6 = .ok (.if_icmp .lt 10, 3) := by decide +kernel
theorem dJ3_checkIndex_8e157_16 : decode cJ3_checkIndex_8e157 16 = .ok (.iload_n 0, 1) := by decide +kernel
theorem dJ3_checkIndex_8e157_17 : decode cJ3_checkIndex_8e157 17 = .ok (.ireturn, 1) := by decide +kernel
theorem dL_write_0 : decode cL_write 0 = .ok (.aload 5, 2) := by decide +kernel
theorem dL_write_2 : decode cL_write 2 = .ok (.aload_n 0, 1) := by decide +kernel
theorem dL_write_3 : decode cL_write 3 = .ok (.iload_n 1, 1) := by decide +kernel
theorem dL_write_4 : decode cL_write 4 = .ok (.iload_n 2, 1) := by decide +kernel
theorem dL_write_5 : decode cL_write 5 = .ok (.iload_n 3, 1) := by decide +kernel
theorem dL_write_6 : decode cL_write 6 = .ok (.iload 4, 2) := by decide +kernel
theorem dL_write_8 : decode cL_write 8 = .ok (.invokevirtual 7, 3) := by decide +kernel
theorem dL_write_11 : decode cL_write 11 = .ok (.i2l, 1) := by decide +kernel
theorem dL_write_12 : decode cL_write 12 = .ok (.putfield 13, 3) := by decide +kernel
theorem dL_write_15 : decode cL_write 15 = .ok (.goto 7, 3) := by decide +kernel
theorem dL_write_18 : decode cL_write 18 = .ok (.astore 6, 2) := by decide +kernel
theorem dL_write_20 : decode cL_write 20 = .ok (.iconst 1, 1) := by decide +kernel
theorem dL_write_21 : decode cL_write 21 = .ok (.ireturn, 1) := by decide +kernel
theorem dL_write_22 : decode cL_write 22 = .ok (.iconst 0, 1) := by decide +kernel
theorem dL_write_23 : decode cL_write 23 = .ok (.ireturn, 1) := by decide +kernel
theorem dL_ofYears_0 : decode cL_ofYears 0 = .ok (.aload_n 3, 1) := by decide +kernel
theorem dL_ofYears_1 : decode cL_ofYears 1 = .ok (.aload_n 0, 1) := by decide +kernel
theorem dL_ofYears_2 : decode cL_ofYears 2 = .ok (.iload_n 1, 1) := by decide +kernel
theorem dL_ofYears_3 : decode cL_ofYears 3 = .ok (.iload_n 2, 1) := by decide +kernel
theorem dL_ofYears_4 : decode cL_ofYears 4 = .ok (.invokevirtual 21, 3) := by decide +kernel
theorem dL_ofYears_7 : decode cL_ofYears 7 = .ok (.i2l, 1) := by decide +kernel
theorem dL_ofYears_8 : decode cL_ofYears 8 = .ok (.putfield 13, 3) := by decide +kernel
theorem dL_ofYears_11 : decode cL_ofYears 11 = .ok (.goto 7, 3) := by decide +kernel
theorem dL_ofYears_14 : decode cL_ofYears 14 = .ok (.astore 4, 2) := by decide +kernel
theorem dL_ofYears_16 : decode cL_ofYears 16 = .ok (.iconst 1, 1) := by decide +kernel
theorem dL_ofYears_17 : decode cL_ofYears 17 = .ok (.ireturn, 1) := by decide +kernel
theorem dL_ofYears_18 : decode cL_ofYears 18 = .ok (.iconst 0, 1) := by decide +kernel
theorem dL_ofYears_19 : decode cL_ofYears 19 = .ok (.ireturn, 1) := by decide +kernel
theorem dL_ofMonths_0 : decode cL_ofMonths 0 = .ok (.aload_n 3, 1) := by decide +kernel
theorem dL_ofMonths_1 : decode cL_ofMonths 1 = .ok (.aload_n 0, 1) := by decide +kernel
theorem dL_ofMonths_2 : decode cL_ofMonths 2 = .ok (.iload_n 1, 1) := by decide +kernel
theorem dL_ofMonths_3 : decode cL_ofMonths 3 = .ok (.iload_n 2, 1) := by decide +kernel
theorem dL_ofMonths_4 : decode cL_ofMonths 4 = .ok (.invokevirtual 25, 3) := by decide +kernel
theorem dL_ofMonths_7 : decode cL_ofMonths 7 = .ok (.i2l, 1) := by decide +kernel
theorem dL_ofMonths_8 : decode cL_ofMonths 8 = .ok (.putfield 13, 3) := by decide +kernel
theorem dL_ofMonths_11 : decode cL_ofMonths 11 = .ok (.goto 7, 3) := by decide +kernel
theorem dL_ofMonths_14 : decode cL_ofMonths 14 = .ok (.astore 4, 2) := by decide +kernel
theorem dL_ofMonths_16 : decode cL_ofMonths 16 = .ok (.iconst 1, 1) := by decide +kernel
theorem dL_ofMonths_17 : decode cL_ofMonths 17 = .ok (.ireturn, 1) := by decide +kernel
theorem dL_ofMonths_18 : decode cL_ofMonths 18 = .ok (.iconst 0, 1) := by decide +kernel
theorem dL_ofMonths_19 : decode cL_ofMonths 19 = .ok (.ireturn, 1) := by decide +kernel
theorem dL_ofWeeks_0 : decode cL_ofWeeks 0 = .ok (.aload_n 3, 1) := by decide +kernel
theorem dL_ofWeeks_1 : decode cL_ofWeeks 1 = .ok (.aload_n 0, 1) := by decide +kernel
theorem dL_ofWeeks_2 : decode cL_ofWeeks 2 = .ok (.iload_n 1, 1) := by decide +kernel
theorem dL_ofWeeks_3 : decode cL_ofWeeks 3 = .ok (.iload_n 2, 1) := by decide +kernel
theorem dL_ofWeeks_4 : decode cL_ofWeeks 4 = .ok (.invokevirtual 28, 3) := by decide +kernel
theorem dL_ofWeeks_7 : decode cL_ofWeeks 7 = .ok (.i2l, 1) := by decide +kernel
theorem dL_ofWeeks_8 : decode cL_ofWeeks 8 = .ok (.putfield 13, 3) := by decide +kernel
theorem dL_ofWeeks_11 : decode cL_ofWeeks 11 = .ok (.goto 7, 3) := by decide +kernel
theorem dL_ofWeeks_14 : decode cL_ofWeeks 14 = .ok (.astore 4, 2) := by decide +kernel
theorem dL_ofWeeks_16 : decode cL_ofWeeks 16 = .ok (.iconst 1, 1) := by decide +kernel
theorem dL_ofWeeks_17 : decode cL_ofWeeks 17 = .ok (.ireturn, 1) := by decide +kernel
theorem dL_ofWeeks_18 : decode cL_ofWeeks 18 = .ok (.iconst 0, 1) := by decide +kernel
theorem dL_ofWeeks_19 : decode cL_ofWeeks 19 = .ok (.ireturn, 1) := by decide +kernel
theorem dL_ofDays_0 : decode cL_ofDays 0 = .ok (.aload_n 3, 1) := by decide +kernel
theorem dL_ofDays_1 : decode cL_ofDays 1 = .ok (.aload_n 0, 1) := by decide +kernel
theorem dL_ofDays_2 : decode cL_ofDays 2 = .ok (.iload_n 1, 1) := by decide +kernel
theorem dL_ofDays_3 : decode cL_ofDays 3 = .ok (.iload_n 2, 1) := by decide +kernel
theorem dL_ofDays_4 : decode cL_ofDays 4 = .ok (.invokevirtual 31, 3) := by decide +kernel
theorem dL_ofDays_7 : decode cL_ofDays 7 = .ok (.i2l, 1) := by decide +kernel
theorem dL_ofDays_8 : decode cL_ofDays 8 = .ok (.putfield 13, 3) := by decide +kernel
theorem dL_ofDays_11 : decode cL_ofDays 11 = .ok (.goto 7, 3) := by decide +kernel
theorem dL_ofDays_14 : decode cL_ofDays 14 = .ok (.astore 4, 2) := by decide +kernel
theorem dL_ofDays_16 : decode cL_ofDays 16 = .ok (.iconst 1, 1) := by decide +kernel
theorem dL_ofDays_17 : decode cL_ofDays 17 = .ok (.ireturn, 1) := by decide +kernel
theorem dL_ofDays_18 : decode cL_ofDays 18 = .ok (.iconst 0, 1) := by decide +kernel
theorem dL_ofDays_19 : decode cL_ofDays 19 = .ok (.ireturn, 1) := by decide +kernel
theorem dL_change_0 : decode cL_change 0 = .ok (.aload 4, 2) := by decide +kernel
theorem dL_change_2 : decode cL_change 2 = .ok (.aload_n 0, 1) := by decide +kernel
theorem dL_change_3 : decode cL_change 3 = .ok (.iload_n 1, 1) := by decide +kernel
theorem dL_change_4 : decode cL_change 4 = .ok (.iload_n 2, 1) := by decide +kernel
theorem dL_change_5 : decode cL_change 5 = .ok (.iload_n 3, 1) := by decide +kernel
theorem dL_change_6 : decode cL_change 6 = .ok (.invokevirtual 34, 3) := by decide +kernel
theorem dL_change_9 : decode cL_change 9 = .ok (.i2l, 1) := by decide +kernel
theorem dL_change_10 : decode cL_change 10 = .ok (.putfield 13, 3) := by decide +kernel
theorem dL_change_13 : decode cL_change 13 = .ok (.goto 11, 3) := by decide +kernel
theorem dL_change_16 : decode cL_change 16 = .ok (.astore 5, 2) := by decide +kernel
theorem dL_change_18 : decode cL_change 18 = .ok (.iconst 1, 1) := by decide +kernel
theorem dL_change_19 : decode cL_change 19 = .ok (.ireturn, 1) := by decide +kernel
theorem dL_change_20 : decode cL_change 20 = .ok (.astore 5, 2) := by decide +kernel
theorem dL_change_22 : decode cL_change 22 = .ok (.iconst 2, 1) := by decide +kernel
theorem dL_change_23 : decode cL_change 23 = .ok (.ireturn, 1) := by decide +kernel
theorem dL_change_24 : decode cL_change 24 = .ok (.iconst 0, 1) := by decide +kernel
theorem dL_change_25 : decode cL_change 25 = .ok (.ireturn, 1) := by decide +kernel
theorem dL_copy_0 : decode cL_copy 0 = .ok (.aload_n 3, 1) := by decide +kernel
theorem dL_copy_1 : decode cL_copy 1 = .ok (.aload_n 0, 1) := by decide +kernel
theorem dL_copy_2 : decode cL_copy 2 = .ok (.iload_n 1, 1) := by decide +kernel
theorem dL_copy_3 : decode cL_copy 3 = .ok (.iload_n 2, 1) := by decide +kernel
theorem dL_copy_4 : decode cL_copy 4 = .ok (.invokevirtual 40, 3) := by decide +kernel
theorem dL_copy_7 : decode cL_copy 7 = .ok (.i2l, 1) := by decide +kernel
theorem dL_copy_8 : decode cL_copy 8 = .ok (.putfield 13, 3) := by decide +kernel
theorem dL_copy_11 : decode cL_copy 11 = .ok (.goto 7, 3) := by decide +kernel
theorem dL_copy_14 : decode cL_copy 14 = .ok (.astore 4, 2) := by decide +kernel
theorem dL_copy_16 : decode cL_copy 16 = .ok (.iconst 1, 1) := by decide +kernel
theorem dL_copy_17 : decode cL_copy 17 = .ok (.ireturn, 1) := by decide +kernel
theorem dL_copy_18 : decode cL_copy 18 = .ok (.iconst 0, 1) := by decide +kernel
theorem dL_copy_19 : decode cL_copy 19 = .ok (.ireturn, 1) := by decide +kernel
theorem dL_swap_0 : decode cL_swap 0 = .ok (.aload_n 3, 1) := by decide +kernel
theorem dL_swap_1 : decode cL_swap 1 = .ok (.aload_n 0, 1) := by decide +kernel
theorem dL_swap_2 : decode cL_swap 2 = .ok (.iload_n 1, 1) := by decide +kernel
theorem dL_swap_3 : decode cL_swap 3 = .ok (.iload_n 2, 1) := by decide +kernel
theorem dL_swap_4 : decode cL_swap 4 = .ok (.invokevirtual 43, 3) := by decide +kernel
theorem dL_swap_7 : decode cL_swap 7 = .ok (.i2l, 1) := by decide +kernel
theorem dL_swap_8 : decode cL_swap 8 = .ok (.putfield 13, 3) := by decide +kernel
theorem dL_swap_11 : decode cL_swap 11 = .ok (.goto 7, 3) := by decide +kernel
theorem dL_swap_14 : decode cL_swap 14 = .ok (.astore 4, 2) := by decide +kernel
theorem dL_swap_16 : decode cL_swap 16 = .ok (.iconst 1, 1) := by decide +kernel
theorem dL_swap_17 : decode cL_swap 17 = .ok (.ireturn, 1) := by decide +kernel
theorem dL_swap_18 : decode cL_swap 18 = .ok (.iconst 0, 1) := by decide +kernel
theorem dL_swap_19 : decode cL_swap 19 = .ok (.ireturn, 1) := by decide +kernel
theorem dL_plusYears_0 : decode cL_plusYears 0 = .ok (.aload 4, 2) := by decide +kernel
theorem dL_plusYears_2 : decode cL_plusYears 2 = .ok (.aload_n 0, 1) := by decide +kernel
theorem dL_plusYears_3 : decode cL_plusYears 3 = .ok (.iload_n 1, 1) := by decide +kernel
theorem dL_plusYears_4 : decode cL_plusYears 4 = .ok (.iload_n 2, 1) := by decide +kernel
theorem dL_plusYears_5 : decode cL_plusYears 5 = .ok (.iload_n 3, 1) := by decide +kernel
theorem dL_plusYears_6 : decode cL_plusYears 6 = .ok (.invokevirtual 46, 3) := by decide +kernel
theorem dL_plusYears_9 : decode cL_plusYears 9 = .ok (.i2l, 1) := by decide +kernel
theorem dL_plusYears_10 : decode cL_plusYears 10 = .ok (.putfield 13, 3) := by decide +kernel
theorem dL_plusYears_13 : decode cL_plusYears 13 = .ok (.goto 7, 3) := by decide +kernel
theorem dL_plusYears_16 : decode cL_plusYears 16 = .ok (.astore 5, 2) := by decide +kernel
theorem dL_plusYears_18 : decode cL_plusYears 18 = .ok (.iconst 1, 1) := by decide +kernel
theorem dL_plusYears_19 : decode cL_plusYears 19 = .ok (.ireturn, 1) := by decide +kernel
theorem dL_plusYears_20 : decode cL_plusYears 20 = .ok (.iconst 0, 1) := by decide +kernel
theorem dL_plusYears_21 : decode cL_plusYears 21 = .ok (.ireturn, 1) := by decide +kernel
theorem dL_plusMonths_0 : decode cL_plusMonths 0 = .ok (.aload 4, 2) := by decide +kernel
theorem dL_plusMonths_2 : decode cL_plusMonths 2 = .ok (.aload_n 0, 1) := by decide +kernel
theorem dL_plusMonths_3 : decode cL_plusMonths 3 = .ok (.iload_n 1, 1) := by decide +kernel
theorem dL_plusMonths_4 : decode cL_plusMonths 4 = .ok (.iload_n 2, 1) := by decide +kernel
theorem dL_plusMonths_5 : decode cL_plusMonths 5 = .ok (.iload_n 3, 1) := by decide +kernel
theorem dL_plusMonths_6 : decode cL_plusMonths 6 = .ok (.invokevirtual 50, 3) := by decide +kernel
theorem dL_plusMonths_9 : decode cL_plusMonths 9 = .ok (.i2l, 1) := by decide +kernel
theorem dL_plusMonths_10 : decode cL_plusMonths 10 = .ok (.putfield 13, 3) := by decide +kernel
theorem dL_plusMonths_13 : decode cL_plusMonths 13 = .ok (.goto 7, 3) := by decide +kernel
theorem dL_plusMonths_16 : decode cL_plusMonths 16 = .ok (.astore 5, 2) := by decide +kernel
theorem dL_plusMonths_18 : decode cL_plusMonths 18 = .ok (.iconst 1, 1) := by decide +kernel
theorem dL_plusMonths_19 : decode cL_plusMonths 19 = .ok (.ireturn, 1) := by decide +kernel
theorem dL_plusMonths_20 : decode cL_plusMonths 20 = .ok (.iconst 0, 1) := by decide +kernel
theorem dL_plusMonths_21 : decode cL_plusMonths 21 = .ok (.ireturn, 1) := by decide +kernel
theorem dL_plusDays_0 : decode cL_plusDays 0 = .ok (.aload 4, 2) := by decide +kernel
theorem dL_plusDays_2 : decode cL_plusDays 2 = .ok (.aload_n 0, 1) := by decide +kernel
theorem dL_plusDays_3 : decode cL_plusDays 3 = .ok (.iload_n 1, 1) := by decide +kernel
theorem dL_plusDays_4 : decode cL_plusDays 4 = .ok (.iload_n 2, 1) := by decide +kernel
theorem dL_plusDays_5 : decode cL_plusDays 5 = .ok (.iload_n 3, 1) := by decide +kernel
theorem dL_plusDays_6 : decode cL_plusDays 6 = .ok (.invokevirtual 53, 3) := by decide +kernel
theorem dL_plusDays_9 : decode cL_plusDays 9 = .ok (.i2l, 1) := by decide +kernel
theorem dL_plusDays_10 : decode cL_plusDays 10 = .ok (.putfield 13, 3) := by decide +kernel
theorem dL_plusDays_13 : decode cL_plusDays 13 = .ok (.goto 7, 3) := by decide +kernel
theorem dL_plusDays_16 : decode cL_plusDays 16 = .ok (.astore 5, 2) := by decide +kernel
theorem dL_plusDays_18 : decode cL_plusDays 18 = .ok (.iconst 1, 1) := by decide +kernel
theorem dL_plusDays_19 : decode cL_plusDays 19 = .ok (.ireturn, 1) := by decide +kernel
theorem dL_plusDays_20 : decode cL_plusDays 20 = .ok (.iconst 0, 1) := by decide +kernel
theorem dL_plusDays_21 : decode cL_plusDays 21 = .ok (.ireturn, 1) := by decide +kernel
theorem dL_minusYears_0 : decode cL_minusYears 0 = .ok (.aload 4, 2) := by decide +kernel
theorem dL_minusYears_2 : decode cL_minusYears 2 = .ok (.aload_n 0, 1) := by decide +kernel
theorem dL_minusYears_3 : decode cL_minusYears 3 = .ok (.iload_n 1, 1) := by decide +kernel
theorem dL_minusYears_4 : decode cL_minusYears 4 = .ok (.iload_n 2, 1) := by decide +kernel
theorem dL_minusYears_5 : decode cL_minusYears 5 = .ok (.iload_n 3, 1) := by decide +kernel
theorem dL_minusYears_6 : decode cL_minusYears 6 = .ok (.invokevirtual 56, 3) := by decide +kernel
theorem dL_minusYears_9 : decode cL_minusYears 9 = .ok (.i2l, 1) := by decide +kernel
theorem dL_minusYears_10 : decode cL_minusYears 10 = .ok (.putfield 13, 3) := by decide +kernel
theorem dL_minusYears_13 : decode cL_minusYears 13 = .ok (.goto 7, 3) := by decide +kernel
theorem dL_minusYears_16 : decode cL_minusYears 16 = .ok (.astore 5, 2) := by decide +kernel
theorem dL_minusYears_18 : decode cL_minusYears 18 = .ok (.iconst 1, 1) := by decide +kernel
theorem dL_minusYears_19 : decode cL_minusYears 19 = .ok (.ireturn, 1) := by decide +kernel
theorem dL_minusYears_20 : decode cL_minusYears 20 = .ok (.iconst 0, 1) := by decide +kernel
theorem dL_minusYears_21 : decode cL_minusYears 21 = .ok (.ireturn, 1) := by decide +kernel
theorem dL_minusMonths_0 : decode cL_minusMonths 0 = .ok (.aload 4, 2) := by decide +kernel
theorem dL_minusMonths_2 : decode cL_minusMonths 2 = .ok (.aload_n 0, 1) := by decide +kernel
theorem dL_minusMonths_3 : decode cL_minusMonths 3 = .ok (.iload_n 1, 1) := by decide +kernel
theorem dL_minusMonths_4 : decode cL_minusMonths 4 = .ok (.iload_n 2, 1) := by decide +kernel
theorem dL_minusMonths_5 : decode cL_minusMonths 5 = .ok (.iload_n 3, 1) := by decide +kernel
theorem dL_minusMonths_6 : decode cL_minusMonths 6 = .ok (.invokevirtual 59, 3) := by decide +kernel
theorem dL_minusMonths_9 : decode cL_minusMonths 9 = .ok (.i2l, 1) := by decide +kernel
theorem dL_minusMonths_10 : decode cL_minusMonths 10 = .ok (.putfield 13, 3) := by decide +kernel
theorem dL_minusMonths_13 : decode cL_minusMonths 13 = .ok (.goto 7, 3) := by decide +kernel
theorem dL_minusMonths_16 : decode cL_minusMonths 16 = .ok (.astore 5, 2) := by decide +kernel
theorem dL_minusMonths_18 : decode cL_minusMonths 18 = .ok (.iconst 1, 1) := by decide +kernel
theorem dL_minusMonths_19 : decode cL_minusMonths 19 = .ok (.ireturn, 1) := by decide +kernel
theorem dL_minusMonths_20 : decode cL_minusMonths 20 = .ok (.iconst 0, 1) := by decide +kernel
theorem dL_minusMonths_21 : decode cL_minusMonths 21 = .ok (.ireturn, 1) := by decide +kernel
theorem dL_minusDays_0 : decode cL_minusDays 0 = .ok (.aload 4, 2) := by decide +kernel
theorem dL_minusDays_2 : decode cL_minusDays 2 = .ok (.aload_n 0, 1) := by decide +kernel
theorem dL_minusDays_3 : decode cL_minusDays 3 = .ok (.iload_n 1, 1) := by decide +kernel
theorem dL_minusDays_4 : decode cL_minusDays 4 = .ok (.iload_n 2, 1) := by decide +kernel
theorem dL_minusDays_5 : decode cL_minusDays 5 = .ok (.iload_n 3, 1) := by decide +kernel
theorem dL_minusDays_6 : decode cL_minusDays 6 = .ok (.invokevirtual 62, 3) := by decide +kernel
theorem dL_minusDays_9 : decode cL_minusDays 9 = .ok (.i2l, 1) := by decide +kernel
theorem dL_minusDays_10 : decode cL_minusDays 10 = .ok (.putfield 13, 3) := by decide +kernel
theorem dL_minusDays_13 : decode cL_minusDays 13 = .ok (.goto 7, 3) := by decide +kernel
theorem dL_minusDays_16 : decode cL_minusDays 16 = .ok (.astore 5, 2) := by decide +kernel
theorem dL_minusDays_18 : decode cL_minusDays 18 = .ok (.iconst 1, 1) := by decide +kernel
theorem dL_minusDays_19 : decode cL_minusDays 19 = .ok (.ireturn, 1) := by decide +kernel
theorem dL_minusDays_20 : decode cL_minusDays 20 = .ok (.iconst 0, 1) := by decide +kernel
theorem dL_minusDays_21 : decode cL_minusDays 21 = .ok (.ireturn, 1) := by decide +kernel
theorem dL_plus_0 : decode cL_plus 0 = .ok (.aload_n 3, 1) := by decide +kernel
theorem dL_plus_1 : decode cL_plus 1 = .ok (.aload_n 0, 1) := by decide +kernel
theorem dL_plus_2 : decode cL_plus 2 = .ok (.iload_n 1, 1) := by decide +kernel
theorem dL_plus_3 : decode cL_plus 3 = .ok (.iload_n 2, 1) := by decide +kernel
theorem dL_plus_4 : decode cL_plus 4 = .ok (.invokevirtual 65, 3) := by decide +kernel
theorem dL_plus_7 : decode cL_plus 7 = .ok (.i2l, 1) := by decide +kernel
theorem dL_plus_8 : decode cL_plus 8 = .ok (.putfield 13, 3) := by decide +kernel
theorem dL_plus_11 : decode cL_plus 11 = .ok (.goto 7, 3) := by decide +kernel
theorem dL_plus_14 : decode cL_plus 14 = .ok (.astore 4, 2) := by decide +kernel
theorem dL_plus_16 : decode cL_plus 16 = .ok (.iconst 1, 1) := by decide +kernel
theorem dL_plus_17 : decode cL_plus 17 = .ok (.ireturn, 1) := by decide +kernel
theorem dL_plus_18 : decode cL_plus 18 = .ok (.iconst 0, 1) := by decide +kernel
theorem dL_plus_19 : decode cL_plus 19 = .ok (.ireturn, 1) := by decide +kernel
theorem dL_minus_0 : decode cL_minus 0 = .ok (.aload_n 3, 1) := by decide +kernel
theorem dL_minus_1 : decode cL_minus 1 = .ok (.aload_n 0, 1) := by decide +kernel
theorem dL_minus_2 : decode cL_minus 2 = .ok (.iload_n 1, 1) := by decide +kernel
theorem dL_minus_3 : decode cL_minus 3 = .ok (.iload_n 2, 1) := by decide +kernel
theorem dL_minus_4 : decode cL_minus 4 = .ok (.invokevirtual 68, 3) := by decide +kernel
theorem dL_minus_7 : decode cL_minus 7 = .ok (.i2l, 1) := by decide +kernel
theorem dL_minus_8 : decode cL_minus 8 = .ok (.putfield 13, 3) := by decide +kernel
theorem dL_minus_11 : decode cL_minus 11 = .ok (.goto 7, 3) := by decide +kernel
theorem dL_minus_14 : decode cL_minus 14 = .ok (.astore 4, 2) := by decide +kernel
theorem dL_minus_16 : decode cL_minus 16 = .ok (.iconst 1, 1) := by decide +kernel
theorem dL_minus_17 : decode cL_minus 17 = .ok (.ireturn, 1) := by decide +kernel
theorem dL_minus_18 : decode cL_minus 18 = .ok (.iconst 0, 1) := by decide +kernel
theorem dL_minus_19 : decode cL_minus 19 = .ok (.ireturn, 1) := by decide +kernel
theorem dL_multipliedBy_0 : decode cL_multipliedBy 0 = .ok (.aload_n 3, 1) := by decide +kernel
theorem dL_multipliedBy_1 : decode cL_multipliedBy 1 = .ok (.aload_n 0, 1) := by decide +kernel
theorem dL_multipliedBy_2 : decode cL_multipliedBy 2 = .ok (.iload_n 1, 1) := by decide +kernel
theorem dL_multipliedBy_3 : decode cL_multipliedBy 3 = .ok (.iload_n 2, 1) := by decide +kernel
theorem dL_multipliedBy_4 : decode cL_multipliedBy 4 = .ok (.invokevirtual 71, 3) := by decide +kernel
theorem dL_multipliedBy_7 : decode cL_multipliedBy 7 = .ok (.i2l, 1) := by decide +kernel
theorem dL_multipliedBy_8 : decode cL_multipliedBy 8 = .ok (.putfield 13, 3) := by decide +kernel
theorem dL_multipliedBy_11 : decode cL_multipliedBy 11 = .ok (.goto 7, 3) := by decide +kernel
theorem dL_multipliedBy_14 : decode cL_multipliedBy 14 = .ok (.astore 4, 2) := by decide +kernel
theorem dL_multipliedBy_16 : decode cL_multipliedBy 16 = .ok (.iconst 1, 1) := by decide +kernel
theorem dL_multipliedBy_17 : decode cL_multipliedBy 17 = .ok (.ireturn, 1) := by decide +kernel
theorem dL_multipliedBy_18 : decode cL_multipliedBy 18 = .ok (.iconst 0, 1) := by decide +kernel
theorem dL_multipliedBy_19 : decode cL_multipliedBy 19 = .ok (.ireturn, 1) := by decide +kernel
theorem dL_negated_0 : decode cL_negated 0 = .ok (.aload_n 2, 1) := by decide +kernel
theorem dL_negated_1 : decode cL_negated 1 = .ok (.aload_n 0, 1) := by decide +kernel
theorem dL_negated_2 : decode cL_negated 2 = .ok (.iload_n 1, 1) := by decide +kernel
theorem dL_negated_3 : decode cL_negated 3 = .ok (.invokevirtual 74, 3) := by decide +kernel
theorem dL_negated_6 : decode cL_negated 6 = .ok (.i2l, 1) := by decide +kernel
theorem dL_negated_7 : decode cL_negated 7 = .ok (.putfield 13, 3) := by decide +kernel
theorem dL_negated_10 : decode cL_negated 10 = .ok (.goto 6, 3) := by decide +kernel
theorem dL_negated_13 : decode cL_negated 13 = .ok (.astore_n 3, 1) := by decide +kernel
theorem dL_negated_14 : decode cL_negated 14 = .ok (.iconst 1, 1) := by decide +kernel
theorem dL_negated_15 : decode cL_negated 15 = .ok (.ireturn, 1) := by decide +kernel
theorem dL_negated_16 : decode cL_negated 16 = .ok (.iconst 0, 1) := by decide +kernel
theorem dL_negated_17 : decode cL_negated 17 = .ok (.ireturn, 1) := by decide +kernel
theorem dL_normalized_0 : decode cL_normalized 0 = .ok (.aload_n 2, 1) := by decide +kernel
theorem dL_normalized_1 : decode cL_normalized 1 = .ok (.aload_n 0, 1) := by decide +kernel
theorem dL_normalized_2 : decode cL_normalized 2 = .ok (.iload_n 1, 1) := by decide +kernel
theorem dL_normalized_3 : decode cL_normalized 3 = .ok (.invokevirtual 78, 3) := by decide +kernel
theorem dL_normalized_6 : decode cL_normalized 6 = .ok (.i2l, 1) := by decide +kernel
theorem dL_normalized_7 : decode cL_normalized 7 = .ok (.putfield 13, 3) := by decide +kernel
theorem dL_normalized_10 : decode cL_normalized 10 = .ok (.goto 6, 3) := by decide +kernel
theorem dL_normalized_13 : decode cL_normalized 13 = .ok (.astore_n 3, 1) := by decide +kernel
theorem dL_normalized_14 : decode cL_normalized 14 = .ok (.iconst 1, 1) := by decide +kernel
theorem dL_normalized_15 : decode cL_normalized 15 = .ok (.ireturn, 1) := by decide +kernel
theorem dL_normalized_16 : decode cL_normalized 16 = .ok (.iconst 0, 1) := by decide +kernel
theorem dL_normalized_17 : decode cL_normalized 17 = .ok (.ireturn, 1) := by decide +kernel
theorem dL_lay_0 : decode cL_lay 0 = .ok (.aload_n 2, 1) := by decide +kernel
theorem dL_lay_1 : decode cL_lay 1 = .ok (.aload_n 0, 1) := by decide +kernel
theorem dL_lay_2 : decode cL_lay 2 = .ok (.iload_n 1, 1) := by decide +kernel
theorem dL_lay_3 : decode cL_lay 3 = .ok (.invokevirtual 81, 3) := by decide +kernel
theorem dL_lay_6 : decode cL_lay 6 = .ok (.i2l, 1) := by decide +kernel
theorem dL_lay_7 : decode cL_lay 7 = .ok (.putfield 13, 3) := by decide +kernel
theorem dL_lay_10 : decode cL_lay 10 = .ok (.goto 6, 3) := by decide +kernel
theorem dL_lay_13 : decode cL_lay 13 = .ok (.astore_n 3, 1) := by decide +kernel
theorem dL_lay_14 : decode cL_lay 14 = .ok (.iconst 1, 1) := by decide +kernel
theorem dL_lay_15 : decode cL_lay 15 = .ok (.ireturn, 1) := by decide +kernel
theorem dL_lay_16 : decode cL_lay 16 = .ok (.iconst 0, 1) := by decide +kernel
theorem dL_lay_17 : decode cL_lay 17 = .ok (.ireturn, 1) := by decide +kernel
theorem dL_take_0 : decode cL_take 0 = .ok (.aload_n 2, 1) := by decide +kernel
theorem dL_take_1 : decode cL_take 1 = .ok (.aload_n 0, 1) := by decide +kernel
theorem dL_take_2 : decode cL_take 2 = .ok (.iload_n 1, 1) := by decide +kernel
theorem dL_take_3 : decode cL_take 3 = .ok (.invokevirtual 84, 3) := by decide +kernel
theorem dL_take_6 : decode cL_take 6 = .ok (.i2l, 1) := by decide +kernel
theorem dL_take_7 : decode cL_take 7 = .ok (.putfield 13, 3) := by decide +kernel
theorem dL_take_10 : decode cL_take 10 = .ok (.goto 6, 3) := by decide +kernel
theorem dL_take_13 : decode cL_take 13 = .ok (.astore_n 3, 1) := by decide +kernel
theorem dL_take_14 : decode cL_take 14 = .ok (.iconst 1, 1) := by decide +kernel
theorem dL_take_15 : decode cL_take 15 = .ok (.ireturn, 1) := by decide +kernel
theorem dL_take_16 : decode cL_take 16 = .ok (.iconst 0, 1) := by decide +kernel
theorem dL_take_17 : decode cL_take 17 = .ok (.ireturn, 1) := by decide +kernel
theorem dL_sum_0 : decode cL_sum 0 = .ok (.aload_n 2, 1) := by decide +kernel
theorem dL_sum_1 : decode cL_sum 1 = .ok (.aload_n 0, 1) := by decide +kernel
theorem dL_sum_2 : decode cL_sum 2 = .ok (.iload_n 1, 1) := by decide +kernel
theorem dL_sum_3 : decode cL_sum 3 = .ok (.invokevirtual 87, 3) := by decide +kernel
theorem dL_sum_6 : decode cL_sum 6 = .ok (.i2l, 1) := by decide +kernel
theorem dL_sum_7 : decode cL_sum 7 = .ok (.putfield 13, 3) := by decide +kernel
theorem dL_sum_10 : decode cL_sum 10 = .ok (.goto 6, 3) := by decide +kernel
theorem dL_sum_13 : decode cL_sum 13 = .ok (.astore_n 3, 1) := by decide +kernel
theorem dL_sum_14 : decode cL_sum 14 = .ok (.iconst 1, 1) := by decide +kernel
theorem dL_sum_15 : decode cL_sum 15 = .ok (.ireturn, 1) := by decide +kernel
theorem dL_sum_16 : decode cL_sum 16 = .ok (.iconst 0, 1) := by decide +kernel
theorem dL_sum_17 : decode cL_sum 17 = .ok (.ireturn, 1) := by decide +kernel
theorem dL_part_0 : decode cL_part 0 = .ok (.aload_n 3, 1) := by decide +kernel
theorem dL_part_1 : decode cL_part 1 = .ok (.aload_n 0, 1) := by decide +kernel
theorem dL_part_2 : decode cL_part 2 = .ok (.iload_n 1, 1) := by decide +kernel
theorem dL_part_3 : decode cL_part 3 = .ok (.iload_n 2, 1) := by decide +kernel
theorem dL_part_4 : decode cL_part 4 = .ok (.invokevirtual 90, 3) := by decide +kernel
theorem dL_part_7 : decode cL_part 7 = .ok (.i2l, 1) := by decide +kernel
theorem dL_part_8 : decode cL_part 8 = .ok (.putfield 13, 3) := by decide +kernel
theorem dL_part_11 : decode cL_part 11 = .ok (.goto 11, 3) := by decide +kernel
theorem dL_part_14 : decode cL_part 14 = .ok (.astore 4, 2) := by decide +kernel
theorem dL_part_16 : decode cL_part 16 = .ok (.iconst 1, 1) := by decide +kernel
theorem dL_part_17 : decode cL_part 17 = .ok (.ireturn, 1) := by decide +kernel
theorem dL_part_18 : decode cL_part 18 = .ok (.astore 4, 2) := by decide +kernel
theorem dL_part_20 : decode cL_part 20 = .ok (.iconst 2, 1) := by decide +kernel
theorem dL_part_21 : decode cL_part 21 = .ok (.ireturn, 1) := by decide +kernel
theorem dL_part_22 : decode cL_part 22 = .ok (.iconst 0, 1) := by decide +kernel
theorem dL_part_23 : decode cL_part 23 = .ok (.ireturn, 1) := by decide +kernel
theorem dL_total_0 : decode cL_total 0 = .ok (.aload_n 2, 1) := by decide +kernel
theorem dL_total_1 : decode cL_total 1 = .ok (.aload_n 0, 1) := by decide +kernel
theorem dL_total_2 : decode cL_total 2 = .ok (.iload_n 1, 1) := by decide +kernel
theorem dL_total_3 : decode cL_total 3 = .ok (.invokevirtual 93, 3) := by decide +kernel
theorem dL_total_6 : decode cL_total 6 = .ok (.putfield 97, 3) := by decide +kernel
theorem dL_total_9 : decode cL_total 9 = .ok (.goto 6, 3) := by decide +kernel
theorem dL_total_12 : decode cL_total 12 = .ok (.astore_n 3, 1) := by decide +kernel
theorem dL_total_13 : decode cL_total 13 = .ok (.iconst 1, 1) := by decide +kernel
theorem dL_total_14 : decode cL_total 14 = .ok (.ireturn, 1) := by decide +kernel
theorem dL_total_15 : decode cL_total 15 = .ok (.iconst 0, 1) := by decide +kernel
theorem dL_total_16 : decode cL_total 16 = .ok (.ireturn, 1) := by decide +kernel
theorem dL_isZero_0 : decode cL_isZero 0 = .ok (.aload_n 2, 1) := by decide +kernel
theorem dL_isZero_1 : decode cL_isZero 1 = .ok (.aload_n 0, 1) := by decide +kernel
theorem dL_isZero_2 : decode cL_isZero 2 = .ok (.iload_n 1, 1) := by decide +kernel
theorem dL_isZero_3 : decode cL_isZero 3 = .ok (.invokevirtual 101, 3) := by decide +kernel
theorem dL_isZero_6 : decode cL_isZero 6 = .ok (.ifCond .eq 7, 3) := by decide +kernel
theorem dL_isZero_9 : decode cL_isZero 9 = .ok (.lconst 1, 1) := by decide +kernel
theorem dL_isZero_10 : decode cL_isZero 10 = .ok (.goto 4, 3) := by decide +kernel
theorem dL_isZero_13 : decode cL_isZero 13 = .ok (.lconst 0, 1) := by decide +kernel
theorem dL_isZero_14 : decode cL_isZero 14 = .ok (.putfield 13, 3) := by decide +kernel
theorem dL_isZero_17 : decode cL_isZero 17 = .ok (.goto 6, 3) := by decide +kernel
theorem dL_isZero_20 : decode cL_isZero 20 = .ok (.astore_n 3, 1) := by decide +kernel
theorem dL_isZero_21 : decode cL_isZero 21 = .ok (.iconst 1, 1) := by decide +kernel
theorem dL_isZero_22 : decode cL_isZero 22 = .ok (.ireturn, 1) := by decide +kernel
theorem dL_isZero_23 : decode cL_isZero 23 = .ok (.iconst 0, 1) := by decide +kernel
theorem dL_isZero_24 : decode cL_isZero 24 = .ok (.ireturn, 1) := by decide +kernel
theorem dL_isNegative_0 : decode cL_isNegative 0 = .ok (.aload_n 2, 1) := by decide +kernel
theorem dL_isNegative_1 : decode cL_isNegative 1 = .ok (.aload_n 0, 1) := by decide +kernel
theorem dL_isNegative_2 : decode cL_isNegative 2 = .ok (.iload_n 1, 1) := by decide +kernel
theorem dL_isNegative_3 : decode cL_isNegative 3 = .ok (.invokevirtual 105, 3) := by decide +kernel
theorem dL_isNegative_6 : decode cL_isNegative 6 = .ok (.ifCond .eq 7, 3) := by decide +kernel
theorem dL_isNegative_9 : decode cL_isNegative 9 = .ok (.lconst 1, 1) := by decide +kernel
theorem dL_isNegative_10 : decode cL_isNegative 10 = .ok (.goto 4, 3) := by decide +kernel
theorem dL_isNegative_13 : decode cL_isNegative 13 = .ok (.lconst 0, 1) := by decide +kernel
theorem dL_isNegative_14 : decode cL_isNegative 14 = .ok (.putfield 13, 3) := by decide +kernel
theorem dL_isNegative_17 : decode cL_isNegative 17 = .ok (.goto 6, 3) := by decide +kernel
theorem dL_isNegative_20 : decode cL_isNegative 20 = .ok (.astore_n 3, 1) := by decide +kernel
theorem dL_isNegative_21 : decode cL_isNegative 21 = .ok (.iconst 1, 1) := by decide +kernel
theorem dL_isNegative_22 : decode cL_isNegative 22 = .ok (.ireturn, 1) := by decide +kernel
theorem dL_isNegative_23 : decode cL_isNegative 23 = .ok (.iconst 0, 1) := by decide +kernel
theorem dL_isNegative_24 : decode cL_isNegative 24 = .ok (.ireturn, 1) := by decide +kernel
theorem dL_areSame_0 : decode cL_areSame 0 = .ok (.aload_n 3, 1) := by decide +kernel
theorem dL_areSame_1 : decode cL_areSame 1 = .ok (.aload_n 0, 1) := by decide +kernel
theorem dL_areSame_2 : decode cL_areSame 2 = .ok (.iload_n 1, 1) := by decide +kernel
theorem dL_areSame_3 : decode cL_areSame 3 = .ok (.iload_n 2, 1) := by decide +kernel
theorem dL_areSame_4 : decode cL_areSame 4 = .ok (.invokevirtual 108, 3) := by decide +kernel
theorem dL_areSame_7 : decode cL_areSame 7 = .ok (.ifCond .eq 7, 3) := by decide +kernel
theorem dL_areSame_10 : decode cL_areSame 10 = .ok (.lconst 1, 1) := by decide +kernel
theorem dL_areSame_11 : decode cL_areSame 11 = .ok (.goto 4, 3) := by decide +kernel
theorem dL_areSame_14 : decode cL_areSame 14 = .ok (.lconst 0, 1) := by decide +kernel
theorem dL_areSame_15 : decode cL_areSame 15 = .ok (.putfield 13, 3) := by decide +kernel
theorem dL_areSame_18 : decode cL_areSame 18 = .ok (.goto 7, 3) := by decide +kernel
theorem dL_areSame_21 : decode cL_areSame 21 = .ok (.astore 4, 2) := by decide +kernel
theorem dL_areSame_23 : decode cL_areSame 23 = .ok (.iconst 1, 1) := by decide +kernel
theorem dL_areSame_24 : decode cL_areSame 24 = .ok (.ireturn, 1) := by decide +kernel
theorem dL_areSame_25 : decode cL_areSame 25 = .ok (.iconst 0, 1) := by decide +kernel
theorem dL_areSame_26 : decode cL_areSame 26 = .ok (.ireturn, 1) := by decide +kernel
theorem dL_areAlike_0 : decode cL_areAlike 0 = .ok (.aload_n 3, 1) := by decide +kernel
theorem dL_areAlike_1 : decode cL_areAlike 1 = .ok (.aload_n 0, 1) := by decide +kernel
theorem dL_areAlike_2 : decode cL_areAlike 2 = .ok (.iload_n 1, 1) := by decide +kernel
theorem dL_areAlike_3 : decode cL_areAlike 3 = .ok (.iload_n 2, 1) := by decide +kernel
theorem dL_areAlike_4 : decode cL_areAlike 4 = .ok (.invokevirtual 112, 3) := by decide +kernel
theorem dL_areAlike_7 : decode cL_areAlike 7 = .ok (.ifCond .eq 7, 3) := by decide +kernel
theorem dL_areAlike_10 : decode cL_areAlike 10 = .ok (.lconst 1, 1) := by decide +kernel
theorem dL_areAlike_11 : decode cL_areAlike 11 = .ok (.goto 4, 3) := by decide +kernel
theorem dL_areAlike_14 : decode cL_areAlike 14 = .ok (.lconst 0, 1) := by decide +kernel
theorem dL_areAlike_15 : decode cL_areAlike 15 = .ok (.putfield 13, 3) := by decide +kernel
theorem dL_areAlike_18 : decode cL_areAlike 18 = .ok (.goto 7, 3) := by decide +kernel
theorem dL_areAlike_21 : decode cL_areAlike 21 = .ok (.astore 4, 2) := by decide +kernel
theorem dL_areAlike_23 : decode cL_areAlike 23 = .ok (.iconst 1, 1) := by decide +kernel
theorem dL_areAlike_24 : decode cL_areAlike 24 = .ok (.ireturn, 1) := by decide +kernel
theorem dL_areAlike_25 : decode cL_areAlike 25 = .ok (.iconst 0, 1) := by decide +kernel
theorem dL_areAlike_26 : decode cL_areAlike 26 = .ok (.ireturn, 1) := by decide +kernel
theorem dL_text_0 : decode cL_text 0 = .ok (.aload_n 2, 1) := by decide +kernel
theorem dL_text_1 : decode cL_text 1 = .ok (.aload_n 0, 1) := by decide +kernel
theorem dL_text_2 : decode cL_text 2 = .ok (.iload_n 1, 1) := by decide +kernel
theorem dL_text_3 : decode cL_text 3 = .ok (.invokevirtual 115, 3) := by decide +kernel
theorem dL_text_6 : decode cL_text 6 = .ok (.putfield 97, 3) := by decide +kernel
theorem dL_text_9 : decode cL_text 9 = .ok (.goto 6, 3) := by decide +kernel
theorem dL_text_12 : decode cL_text 12 = .ok (.astore_n 3, 1) := by decide +kernel
theorem dL_text_13 : decode cL_text 13 = .ok (.iconst 1, 1) := by decide +kernel
theorem dL_text_14 : decode cL_text 14 = .ok (.ireturn, 1) := by decide +kernel
theorem dL_text_15 : decode cL_text 15 = .ok (.iconst 0, 1) := by decide +kernel
theorem dL_text_16 : decode cL_text 16 = .ok (.ireturn, 1) := by decide +kernel
theorem dL_times_0 : decode cL_times 0 = .ok (.aload_n 3, 1) := by decide +kernel
theorem dL_times_1 : decode cL_times 1 = .ok (.aload_n 0, 1) := by decide +kernel
theorem dL_times_2 : decode cL_times 2 = .ok (.iload_n 1, 1) := by decide +kernel
theorem dL_times_3 : decode cL_times 3 = .ok (.iload_n 2, 1) := by decide +kernel
theorem dL_times_4 : decode cL_times 4 = .ok (.invokevirtual 118, 3) := by decide +kernel
theorem dL_times_7 : decode cL_times 7 = .ok (.putfield 97, 3) := by decide +kernel
theorem dL_times_10 : decode cL_times 10 = .ok (.goto 7, 3) := by decide +kernel
theorem dL_times_13 : decode cL_times 13 = .ok (.astore 4, 2) := by decide +kernel
theorem dL_times_15 : decode cL_times 15 = .ok (.iconst 1, 1) := by decide +kernel
theorem dL_times_16 : decode cL_times 16 = .ok (.ireturn, 1) := by decide +kernel
theorem dL_times_17 : decode cL_times 17 = .ok (.iconst 0, 1) := by decide +kernel
theorem dL_times_18 : decode cL_times 18 = .ok (.ireturn, 1) := by decide +kernel
theorem dL_added_0 : decode cL_added 0 = .ok (.aload_n 3, 1) := by decide +kernel
theorem dL_added_1 : decode cL_added 1 = .ok (.aload_n 0, 1) := by decide +kernel
theorem dL_added_2 : decode cL_added 2 = .ok (.iload_n 1, 1) := by decide +kernel
theorem dL_added_3 : decode cL_added 3 = .ok (.iload_n 2, 1) := by decide +kernel
theorem dL_added_4 : decode cL_added 4 = .ok (.invokevirtual 122, 3) := by decide +kernel
theorem dL_added_7 : decode cL_added 7 = .ok (.putfield 97, 3) := by decide +kernel
theorem dL_added_10 : decode cL_added 10 = .ok (.goto 11, 3) := by decide +kernel
theorem dL_added_13 : decode cL_added 13 = .ok (.astore 4, 2) := by decide +kernel
theorem dL_added_15 : decode cL_added 15 = .ok (.iconst 1, 1) := by decide +kernel
theorem dL_added_16 : decode cL_added 16 = .ok (.ireturn, 1) := by decide +kernel
theorem dL_added_17 : decode cL_added 17 = .ok (.astore 4, 2) := by decide +kernel
theorem dL_added_19 : decode cL_added 19 = .ok (.iconst 2, 1) := by decide +kernel
theorem dL_added_20 : decode cL_added 20 = .ok (.ireturn, 1) := by decide +kernel
theorem dL_added_21 : decode cL_added 21 = .ok (.iconst 0, 1) := by decide +kernel
theorem dL_added_22 : decode cL_added 22 = .ok (.ireturn, 1) := by decide +kernel
theorem dL_with_0 : decode cL_with 0 = .ok (.aload 4, 2) := by decide +kernel
theorem dL_with_2 : decode cL_with 2 = .ok (.aload_n 0, 1) := by decide +kernel
theorem dL_with_3 : decode cL_with 3 = .ok (.iload_n 1, 1) := by decide +kernel
theorem dL_with_4 : decode cL_with 4 = .ok (.iload_n 2, 1) := by decide +kernel
theorem dL_with_5 : decode cL_with 5 = .ok (.iload_n 3, 1) := by decide +kernel
theorem dL_with_6 : decode cL_with 6 = .ok (.invokevirtual 125, 3) := by decide +kernel
theorem dL_with_9 : decode cL_with 9 = .ok (.putfield 97, 3) := by decide +kernel
theorem dL_with_12 : decode cL_with 12 = .ok (.goto 7, 3) := by decide +kernel
theorem dL_with_15 : decode cL_with 15 = .ok (.astore 5, 2) := by decide +kernel
theorem dL_with_17 : decode cL_with 17 = .ok (.iconst 1, 1) := by decide +kernel
theorem dL_with_18 : decode cL_with 18 = .ok (.ireturn, 1) := by decide +kernel
theorem dL_with_19 : decode cL_with 19 = .ok (.iconst 0, 1) := by decide +kernel
theorem dL_with_20 : decode cL_with 20 = .ok (.ireturn, 1) := by decide +kernel
theorem dL_tidy_0 : decode cL_tidy 0 = .ok (.aload_n 2, 1) := by decide +kernel
theorem dL_tidy_1 : decode cL_tidy 1 = .ok (.aload_n 0, 1) := by decide +kernel
theorem dL_tidy_2 : decode cL_tidy 2 = .ok (.iload_n 1, 1) := by decide +kernel
theorem dL_tidy_3 : decode cL_tidy 3 = .ok (.invokevirtual 129, 3) := by decide +kernel
theorem dL_tidy_6 : decode cL_tidy 6 = .ok (.putfield 97, 3) := by decide +kernel
theorem dL_tidy_9 : decode cL_tidy 9 = .ok (.goto 6, 3) := by decide +kernel
theorem dL_tidy_12 : decode cL_tidy 12 = .ok (.astore_n 3, 1) := by decide +kernel
theorem dL_tidy_13 : decode cL_tidy 13 = .ok (.iconst 1, 1) := by decide +kernel
theorem dL_tidy_14 : decode cL_tidy 14 = .ok (.ireturn, 1) := by decide +kernel
theorem dL_tidy_15 : decode cL_tidy 15 = .ok (.iconst 0, 1) := by decide +kernel
theorem dL_tidy_16 : decode cL_tidy 16 = .ok (.ireturn, 1) := by decide +kernel
theorem dL_opposite_0 : decode cL_opposite 0 = .ok (.aload_n 2, 1) := by decide +kernel
theorem dL_opposite_1 : decode cL_opposite 1 = .ok (.aload_n 0, 1) := by decide +kernel
theorem dL_opposite_2 : decode cL_opposite 2 = .ok (.iload_n 1, 1) := by decide +kernel
theorem dL_opposite_3 : decode cL_opposite 3 = .ok (.invokevirtual 132, 3) := by decide +kernel
theorem dL_opposite_6 : decode cL_opposite 6 = .ok (.putfield 97, 3) := by decide +kernel
theorem dL_opposite_9 : decode cL_opposite 9 = .ok (.goto 6, 3) := by decide +kernel
theorem dL_opposite_12 : decode cL_opposite 12 = .ok (.astore_n 3, 1) := by decide +kernel
theorem dL_opposite_13 : decode cL_opposite 13 = .ok (.iconst 1, 1) := by decide +kernel
theorem dL_opposite_14 : decode cL_opposite 14 = .ok (.ireturn, 1) := by decide +kernel
theorem dL_opposite_15 : decode cL_opposite 15 = .ok (.iconst 0, 1) := by decide +kernel
theorem dL_opposite_16 : decode cL_opposite 16 = .ok (.ireturn, 1) := by decide +kernel
theorem dL_date_0 : decode cL_date 0 = .ok (.aload 5, 2) := by decide +kernel
theorem dL_date_2 : decode cL_date 2 = .ok (.aload_n 0, 1) := by decide +kernel
theorem dL_date_3 : decode cL_date 3 = .ok (.iload_n 1, 1) := by decide +kernel
theorem dL_date_4 : decode cL_date 4 = .ok (.iload_n 2, 1) := by decide +kernel
theorem dL_date_5 : decode cL_date 5 = .ok (.iload_n 3, 1) := by decide +kernel
theorem dL_date_6 : decode cL_date 6 = .ok (.iload 4, 2) := by decide +kernel
theorem dL_date_8 : decode cL_date 8 = .ok (.invokevirtual 135, 3) := by decide +kernel
theorem dL_date_11 : decode cL_date 11 = .ok (.i2l, 1) := by decide +kernel
theorem dL_date_12 : decode cL_date 12 = .ok (.putfield 13, 3) := by decide +kernel
theorem dL_date_15 : decode cL_date 15 = .ok (.goto 11, 3) := by decide +kernel
theorem dL_date_18 : decode cL_date 18 = .ok (.astore 6, 2) := by decide +kernel
theorem dL_date_20 : decode cL_date 20 = .ok (.iconst 1, 1) := by decide +kernel
theorem dL_date_21 : decode cL_date 21 = .ok (.ireturn, 1) := by decide +kernel
theorem dL_date_22 : decode cL_date 22 = .ok (.astore 6, 2) := by decide +kernel
theorem dL_date_24 : decode cL_date 24 = .ok (.iconst 2, 1) := by decide +kernel
theorem dL_date_25 : decode cL_date 25 = .ok (.ireturn, 1) := by decide +kernel
theorem dL_date_26 : decode cL_date 26 = .ok (.iconst 0, 1) := by decide +kernel
theorem dL_date_27 : decode cL_date 27 = .ok (.ireturn, 1) := by decide +kernel
theorem dL_copyDate_0 : decode cL_copyDate 0 = .ok (.aload_n 3, 1) := by decide +kernel
theorem dL_copyDate_1 : decode cL_copyDate 1 = .ok (.aload_n 0, 1) := by decide +kernel
theorem dL_copyDate_2 : decode cL_copyDate 2 = .ok (.iload_n 1, 1) := by decide +kernel
theorem dL_copyDate_3 : decode cL_copyDate 3 = .ok (.iload_n 2, 1) := by decide +kernel
theorem dL_copyDate_4 : decode cL_copyDate 4 = .ok (.invokevirtual 138, 3) := by decide +kernel
theorem dL_copyDate_7 : decode cL_copyDate 7 = .ok (.i2l, 1) := by decide +kernel
theorem dL_copyDate_8 : decode cL_copyDate 8 = .ok (.putfield 13, 3) := by decide +kernel
theorem dL_copyDate_11 : decode cL_copyDate 11 = .ok (.goto 7, 3) := by decide +kernel
theorem dL_copyDate_14 : decode cL_copyDate 14 = .ok (.astore 4, 2) := by decide +kernel
theorem dL_copyDate_16 : decode cL_copyDate 16 = .ok (.iconst 1, 1) := by decide +kernel
theorem dL_copyDate_17 : decode cL_copyDate 17 = .ok (.ireturn, 1) := by decide +kernel
theorem dL_copyDate_18 : decode cL_copyDate 18 = .ok (.iconst 0, 1) := by decide +kernel
theorem dL_copyDate_19 : decode cL_copyDate 19 = .ok (.ireturn, 1) := by decide +kernel
theorem dL_move_0 : decode cL_move 0 = .ok (.aload_n 3, 1) := by decide +kernel
theorem dL_move_1 : decode cL_move 1 = .ok (.aload_n 0, 1) := by decide +kernel
theorem dL_move_2 : decode cL_move 2 = .ok (.iload_n 1, 1) := by decide +kernel
theorem dL_move_3 : decode cL_move 3 = .ok (.iload_n 2, 1) := by decide +kernel
theorem dL_move_4 : decode cL_move 4 = .ok (.invokevirtual 141, 3) := by decide +kernel
theorem dL_move_7 : decode cL_move 7 = .ok (.i2l, 1) := by decide +kernel
theorem dL_move_8 : decode cL_move 8 = .ok (.putfield 13, 3) := by decide +kernel
theorem dL_move_11 : decode cL_move 11 = .ok (.goto 7, 3) := by decide +kernel
theorem dL_move_14 : decode cL_move 14 = .ok (.astore 4, 2) := by decide +kernel
theorem dL_move_16 : decode cL_move 16 = .ok (.iconst 1, 1) := by decide +kernel
theorem dL_move_17 : decode cL_move 17 = .ok (.ireturn, 1) := by decide +kernel
theorem dL_move_18 : decode cL_move 18 = .ok (.iconst 0, 1) := by decide +kernel
theorem dL_move_19 : decode cL_move 19 = .ok (.ireturn, 1) := by decide +kernel
theorem dL_back_0 : decode cL_back 0 = .ok (.aload_n 3, 1) := by decide +kernel
theorem dL_back_1 : decode cL_back 1 = .ok (.aload_n 0, 1) := by decide +kernel
theorem dL_back_2 : decode cL_back 2 = .ok (.iload_n 1, 1) := by decide +kernel
theorem dL_back_3 : decode cL_back 3 = .ok (.iload_n 2, 1) := by decide +kernel
theorem dL_back_4 : decode cL_back 4 = .ok (.invokevirtual 144, 3) := by decide +kernel
theorem dL_back_7 : decode cL_back 7 = .ok (.i2l, 1) := by decide +kernel
theorem dL_back_8 : decode cL_back 8 = .ok (.putfield 13, 3) := by decide +kernel
theorem dL_back_11 : decode cL_back 11 = .ok (.goto 7, 3) := by decide +kernel
theorem dL_back_14 : decode cL_back 14 = .ok (.astore 4, 2) := by decide +kernel
theorem dL_back_16 : decode cL_back 16 = .ok (.iconst 1, 1) := by decide +kernel
theorem dL_back_17 : decode cL_back 17 = .ok (.ireturn, 1) := by decide +kernel
theorem dL_back_18 : decode cL_back 18 = .ok (.iconst 0, 1) := by decide +kernel
theorem dL_back_19 : decode cL_back 19 = .ok (.ireturn, 1) := by decide +kernel
theorem dL_walk_0 : decode cL_walk 0 = .ok (.aload 4, 2) := by decide +kernel
theorem dL_walk_2 : decode cL_walk 2 = .ok (.aload_n 0, 1) := by decide +kernel
theorem dL_walk_3 : decode cL_walk 3 = .ok (.iload_n 1, 1) := by decide +kernel
theorem dL_walk_4 : decode cL_walk 4 = .ok (.iload_n 2, 1) := by decide +kernel
theorem dL_walk_5 : decode cL_walk 5 = .ok (.iload_n 3, 1) := by decide +kernel
theorem dL_walk_6 : decode cL_walk 6 = .ok (.invokevirtual 147, 3) := by decide +kernel
theorem dL_walk_9 : decode cL_walk 9 = .ok (.i2l, 1) := by decide +kernel
theorem dL_walk_10 : decode cL_walk 10 = .ok (.putfield 13, 3) := by decide +kernel
theorem dL_walk_13 : decode cL_walk 13 = .ok (.goto 11, 3) := by decide +kernel
theorem dL_walk_16 : decode cL_walk 16 = .ok (.astore 5, 2) := by decide +kernel
theorem dL_walk_18 : decode cL_walk 18 = .ok (.iconst 1, 1) := by decide +kernel
theorem dL_walk_19 : decode cL_walk 19 = .ok (.ireturn, 1) := by decide +kernel
theorem dL_walk_20 : decode cL_walk 20 = .ok (.astore 5, 2) := by decide +kernel
theorem dL_walk_22 : decode cL_walk 22 = .ok (.iconst 2, 1) := by decide +kernel
theorem dL_walk_23 : decode cL_walk 23 = .ok (.ireturn, 1) := by decide +kernel
theorem dL_walk_24 : decode cL_walk 24 = .ok (.iconst 0, 1) := by decide +kernel
theorem dL_walk_25 : decode cL_walk 25 = .ok (.ireturn, 1) := by decide +kernel
theorem dL_between_0 : decode cL_between 0 = .ok (.aload 4, 2) := by decide +kernel
theorem dL_between_2 : decode cL_between 2 = .ok (.aload_n 0, 1) := by decide +kernel
theorem dL_between_3 : decode cL_between 3 = .ok (.iload_n 1, 1) := by decide +kernel
theorem dL_between_4 : decode cL_between 4 = .ok (.iload_n 2, 1) := by decide +kernel
theorem dL_between_5 : decode cL_between 5 = .ok (.iload_n 3, 1) := by decide +kernel
theorem dL_between_6 : decode cL_between 6 = .ok (.invokevirtual 150, 3) := by decide +kernel
theorem dL_between_9 : decode cL_between 9 = .ok (.i2l, 1) := by decide +kernel
theorem dL_between_10 : decode cL_between 10 = .ok (.putfield 13, 3) := by decide +kernel
theorem dL_between_13 : decode cL_between 13 = .ok (.goto 7, 3) := by decide +kernel
theorem dL_between_16 : decode cL_between 16 = .ok (.astore 5, 2) := by decide +kernel
theorem dL_between_18 : decode cL_between 18 = .ok (.iconst 1, 1) := by decide +kernel
theorem dL_between_19 : decode cL_between 19 = .ok (.ireturn, 1) := by decide +kernel
theorem dL_between_20 : decode cL_between 20 = .ok (.iconst 0, 1) := by decide +kernel
theorem dL_between_21 : decode cL_between 21 = .ok (.ireturn, 1) := by decide +kernel
theorem dL_until_0 : decode cL_until 0 = .ok (.aload 4, 2) := by decide +kernel
theorem dL_until_2 : decode cL_until 2 = .ok (.aload_n 0, 1) := by decide +kernel
theorem dL_until_3 : decode cL_until 3 = .ok (.iload_n 1, 1) := by decide +kernel
theorem dL_until_4 : decode cL_until 4 = .ok (.iload_n 2, 1) := by decide +kernel
theorem dL_until_5 : decode cL_until 5 = .ok (.iload_n 3, 1) := by decide +kernel
theorem dL_until_6 : decode cL_until 6 = .ok (.invokevirtual 153, 3) := by decide +kernel
theorem dL_until_9 : decode cL_until 9 = .ok (.i2l, 1) := by decide +kernel
theorem dL_until_10 : decode cL_until 10 = .ok (.putfield 13, 3) := by decide +kernel
theorem dL_until_13 : decode cL_until 13 = .ok (.goto 7, 3) := by decide +kernel
theorem dL_until_16 : decode cL_until 16 = .ok (.astore 5, 2) := by decide +kernel
theorem dL_until_18 : decode cL_until 18 = .ok (.iconst 1, 1) := by decide +kernel
theorem dL_until_19 : decode cL_until 19 = .ok (.ireturn, 1) := by decide +kernel
theorem dL_until_20 : decode cL_until 20 = .ok (.iconst 0, 1) := by decide +kernel
theorem dL_until_21 : decode cL_until 21 = .ok (.ireturn, 1) := by decide +kernel
theorem dL_ofDate_0 : decode cL_ofDate 0 = .ok (.aload_n 3, 1) := by decide +kernel
theorem dL_ofDate_1 : decode cL_ofDate 1 = .ok (.aload_n 0, 1) := by decide +kernel
theorem dL_ofDate_2 : decode cL_ofDate 2 = .ok (.iload_n 1, 1) := by decide +kernel
theorem dL_ofDate_3 : decode cL_ofDate 3 = .ok (.iload_n 2, 1) := by decide +kernel
theorem dL_ofDate_4 : decode cL_ofDate 4 = .ok (.invokevirtual 156, 3) := by decide +kernel
theorem dL_ofDate_7 : decode cL_ofDate 7 = .ok (.i2l, 1) := by decide +kernel
theorem dL_ofDate_8 : decode cL_ofDate 8 = .ok (.putfield 13, 3) := by decide +kernel
theorem dL_ofDate_11 : decode cL_ofDate 11 = .ok (.goto 11, 3) := by decide +kernel
theorem dL_ofDate_14 : decode cL_ofDate 14 = .ok (.astore 4, 2) := by decide +kernel
theorem dL_ofDate_16 : decode cL_ofDate 16 = .ok (.iconst 1, 1) := by decide +kernel
theorem dL_ofDate_17 : decode cL_ofDate 17 = .ok (.ireturn, 1) := by decide +kernel
theorem dL_ofDate_18 : decode cL_ofDate 18 = .ok (.astore 4, 2) := by decide +kernel
theorem dL_ofDate_20 : decode cL_ofDate 20 = .ok (.iconst 2, 1) := by decide +kernel
theorem dL_ofDate_21 : decode cL_ofDate 21 = .ok (.ireturn, 1) := by decide +kernel
theorem dL_ofDate_22 : decode cL_ofDate 22 = .ok (.iconst 0, 1) := by decide +kernel
theorem dL_ofDate_23 : decode cL_ofDate 23 = .ok (.ireturn, 1) := by decide +kernel
theorem dL_dateText_0 : decode cL_dateText 0 = .ok (.aload_n 2, 1) := by decide +kernel
theorem dL_dateText_1 : decode cL_dateText 1 = .ok (.aload_n 0, 1) := by decide +kernel
theorem dL_dateText_2 : decode cL_dateText 2 = .ok (.iload_n 1, 1) := by decide +kernel
theorem dL_dateText_3 : decode cL_dateText 3 = .ok (.invokevirtual 159, 3) := by decide +kernel
theorem dL_dateText_6 : decode cL_dateText 6 = .ok (.putfield 97, 3) := by decide +kernel
theorem dL_dateText_9 : decode cL_dateText 9 = .ok (.goto 6, 3) := by decide +kernel
theorem dL_dateText_12 : decode cL_dateText 12 = .ok (.astore_n 3, 1) := by decide +kernel
theorem dL_dateText_13 : decode cL_dateText 13 = .ok (.iconst 1, 1) := by decide +kernel
theorem dL_dateText_14 : decode cL_dateText 14 = .ok (.ireturn, 1) := by decide +kernel
theorem dL_dateText_15 : decode cL_dateText 15 = .ok (.iconst 0, 1) := by decide +kernel
theorem dL_dateText_16 : decode cL_dateText 16 = .ok (.ireturn, 1) := by decide +kernel
theorem dL_moved_0 : decode cL_moved 0 = .ok (.aload 4, 2) := by decide +kernel
theorem dL_moved_2 : decode cL_moved 2 = .ok (.aload_n 0, 1) := by decide +kernel
theorem dL_moved_3 : decode cL_moved 3 = .ok (.iload_n 1, 1) := by decide +kernel
theorem dL_moved_4 : decode cL_moved 4 = .ok (.iload_n 2, 1) := by decide +kernel
theorem dL_moved_5 : decode cL_moved 5 = .ok (.iload_n 3, 1) := by decide +kernel
theorem dL_moved_6 : decode cL_moved 6 = .ok (.invokevirtual 162, 3) := by decide +kernel
theorem dL_moved_9 : decode cL_moved 9 = .ok (.putfield 97, 3) := by decide +kernel
theorem dL_moved_12 : decode cL_moved 12 = .ok (.goto 7, 3) := by decide +kernel
theorem dL_moved_15 : decode cL_moved 15 = .ok (.astore 5, 2) := by decide +kernel
theorem dL_moved_17 : decode cL_moved 17 = .ok (.iconst 1, 1) := by decide +kernel
theorem dL_moved_18 : decode cL_moved 18 = .ok (.ireturn, 1) := by decide +kernel
theorem dL_moved_19 : decode cL_moved 19 = .ok (.iconst 0, 1) := by decide +kernel
theorem dL_moved_20 : decode cL_moved 20 = .ok (.ireturn, 1) := by decide +kernel
theorem dL_apart_0 : decode cL_apart 0 = .ok (.aload_n 3, 1) := by decide +kernel
theorem dL_apart_1 : decode cL_apart 1 = .ok (.aload_n 0, 1) := by decide +kernel
theorem dL_apart_2 : decode cL_apart 2 = .ok (.iload_n 1, 1) := by decide +kernel
theorem dL_apart_3 : decode cL_apart 3 = .ok (.iload_n 2, 1) := by decide +kernel
theorem dL_apart_4 : decode cL_apart 4 = .ok (.invokevirtual 165, 3) := by decide +kernel
theorem dL_apart_7 : decode cL_apart 7 = .ok (.putfield 97, 3) := by decide +kernel
theorem dL_apart_10 : decode cL_apart 10 = .ok (.goto 7, 3) := by decide +kernel
theorem dL_apart_13 : decode cL_apart 13 = .ok (.astore 4, 2) := by decide +kernel
theorem dL_apart_15 : decode cL_apart 15 = .ok (.iconst 1, 1) := by decide +kernel
theorem dL_apart_16 : decode cL_apart 16 = .ok (.ireturn, 1) := by decide +kernel
theorem dL_apart_17 : decode cL_apart 17 = .ok (.iconst 0, 1) := by decide +kernel
theorem dL_apart_18 : decode cL_apart 18 = .ok (.ireturn, 1) := by decide +kernel
theorem dL_isToldBack_0 : decode cL_isToldBack 0 = .ok (.aload_n 3, 1) := by decide +kernel
theorem dL_isToldBack_1 : decode cL_isToldBack 1 = .ok (.aload_n 0, 1) := by decide +kernel
theorem dL_isToldBack_2 : decode cL_isToldBack 2 = .ok (.iload_n 1, 1) := by decide +kernel
theorem dL_isToldBack_3 : decode cL_isToldBack 3 = .ok (.iload_n 2, 1) := by decide +kernel
theorem dL_isToldBack_4 : decode cL_isToldBack 4 = .ok (.invokevirtual 168, 3) := by decide +kernel
theorem dL_isToldBack_7 : decode cL_isToldBack 7 = .ok (.ifCond .eq 7, 3) := by decide +kernel
theorem dL_isToldBack_10 : decode cL_isToldBack 10 = .ok (.lconst 1, 1) := by decide +kernel
theorem dL_isToldBack_11 : decode cL_isToldBack 11 = .ok (.goto 4, 3) := by decide +kernel
theorem dL_isToldBack_14 : decode cL_isToldBack 14 = .ok (.lconst 0, 1) := by decide +kernel
theorem dL_isToldBack_15 : decode cL_isToldBack 15 = .ok (.putfield 13, 3) := by decide +kernel
theorem dL_isToldBack_18 : decode cL_isToldBack 18 = .ok (.goto 7, 3) := by decide +kernel
theorem dL_isToldBack_21 : decode cL_isToldBack 21 = .ok (.astore 4, 2) := by decide +kernel
theorem dL_isToldBack_23 : decode cL_isToldBack 23 = .ok (.iconst 1, 1) := by decide +kernel
theorem dL_isToldBack_24 : decode cL_isToldBack 24 = .ok (.ireturn, 1) := by decide +kernel
theorem dL_isToldBack_25 : decode cL_isToldBack 25 = .ok (.iconst 0, 1) := by decide +kernel
theorem dL_isToldBack_26 : decode cL_isToldBack 26 = .ok (.ireturn, 1) := by decide +kernel
theorem dL_order_0 : decode cL_order 0 = .ok (.aload_n 3, 1) := by decide +kernel
theorem dL_order_1 : decode cL_order 1 = .ok (.aload_n 0, 1) := by decide +kernel
theorem dL_order_2 : decode cL_order 2 = .ok (.iload_n 1, 1) := by decide +kernel
theorem dL_order_3 : decode cL_order 3 = .ok (.iload_n 2, 1) := by decide +kernel
theorem dL_order_4 : decode cL_order 4 = .ok (.invokevirtual 171, 3) := by decide +kernel
theorem dL_order_7 : decode cL_order 7 = .ok (.i2l, 1) := by decide +kernel
theorem dL_order_8 : decode cL_order 8 = .ok (.putfield 13, 3) := by decide +kernel
theorem dL_order_11 : decode cL_order 11 = .ok (.goto 7, 3) := by decide +kernel
theorem dL_order_14 : decode cL_order 14 = .ok (.astore 4, 2) := by decide +kernel
theorem dL_order_16 : decode cL_order 16 = .ok (.iconst 1, 1) := by decide +kernel
theorem dL_order_17 : decode cL_order 17 = .ok (.ireturn, 1) := by decide +kernel
theorem dL_order_18 : decode cL_order 18 = .ok (.iconst 0, 1) := by decide +kernel
theorem dL_order_19 : decode cL_order 19 = .ok (.ireturn, 1) := by decide +kernel
theorem dL_house_0 : decode cL_house 0 = .ok (.aload_n 2, 1) := by decide +kernel
theorem dL_house_1 : decode cL_house 1 = .ok (.aload_n 0, 1) := by decide +kernel
theorem dL_house_2 : decode cL_house 2 = .ok (.iload_n 1, 1) := by decide +kernel
theorem dL_house_3 : decode cL_house 3 = .ok (.invokevirtual 174, 3) := by decide +kernel
theorem dL_house_6 : decode cL_house 6 = .ok (.i2l, 1) := by decide +kernel
theorem dL_house_7 : decode cL_house 7 = .ok (.putfield 13, 3) := by decide +kernel
theorem dL_house_10 : decode cL_house 10 = .ok (.goto 6, 3) := by decide +kernel
theorem dL_house_13 : decode cL_house 13 = .ok (.astore_n 3, 1) := by decide +kernel
theorem dL_house_14 : decode cL_house 14 = .ok (.iconst 1, 1) := by decide +kernel
theorem dL_house_15 : decode cL_house 15 = .ok (.ireturn, 1) := by decide +kernel
theorem dL_house_16 : decode cL_house 16 = .ok (.iconst 0, 1) := by decide +kernel
theorem dL_house_17 : decode cL_house 17 = .ok (.ireturn, 1) := by decide +kernel
