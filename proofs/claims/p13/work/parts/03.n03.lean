theorem dX0_init_0 : decode cX0_init 0 = .ok (.aload_n 0, 1) := by decide +kernel
theorem dX0_init_1 : decode cX0_init 1 = .ok (.invokespecial 3, 3) := by decide +kernel
theorem dX0_init_4 : decode cX0_init 4 = .ok (.aload_n 0, 1) := by decide +kernel
theorem dX0_init_5 : decode cX0_init 5 = .ok (.iconst 0, 1) := by decide +kernel
theorem dX0_init_6 : decode cX0_init 6 = .ok (.putfield 9, 3) := by decide +kernel
theorem dX0_init_9 : decode cX0_init 9 = .ok (.aload_n 0, 1) := by decide +kernel
theorem dX0_init_10 : decode cX0_init 10 = .ok (.iconst 0, 1) := by decide +kernel
theorem dX0_init_11 : decode cX0_init 11 = .ok (.putfield 15, 3) := by decide +kernel
theorem dX0_init_14 : decode cX0_init 14 = .ok (.aload_n 0, 1) := by decide +kernel
theorem dX0_init_15 : decode cX0_init 15 = .ok (.iconst 0, 1) := by decide +kernel
theorem dX0_init_16 : decode cX0_init 16 = .ok (.putfield 18, 3) := by decide +kernel
theorem dX0_init_19 : decode cX0_init 19 = .ok (.aload_n 0, 1) := by decide +kernel
theorem dX0_init_20 : decode cX0_init 20 = .ok (.iconst 0, 1) := by decide +kernel
theorem dX0_init_21 : decode cX0_init 21 = .ok (.putfield 21, 3) := by decide +kernel
theorem dX0_init_24 : decode cX0_init 24 = .ok (.aload_n 0, 1) := by decide +kernel
theorem dX0_init_25 : decode cX0_init 25 = .ok (.iconst 0, 1) := by decide +kernel
theorem dX0_init_26 : decode cX0_init 26 = .ok (.putfield 24, 3) := by decide +kernel
theorem dX0_init_29 : decode cX0_init 29 = .ok (.aload_n 0, 1) := by decide +kernel
theorem dX0_init_30 : decode cX0_init 30 = .ok (.iconst 0, 1) := by decide +kernel
theorem dX0_init_31 : decode cX0_init 31 = .ok (.putfield 27, 3) := by decide +kernel
theorem dX0_init_34 : decode cX0_init 34 = .ok (.aload_n 0, 1) := by decide +kernel
theorem dX0_init_35 : decode cX0_init 35 = .ok (.bipush 6, 2) := by decide +kernel
theorem dX0_init_37 : decode cX0_init 37 = .ok (.newarray .int, 2) := by decide +kernel
theorem dX0_init_39 : decode cX0_init 39 = .ok (.putfield 30, 3) := by decide +kernel
theorem dX0_init_42 : decode cX0_init 42 = .ok (.aload_n 0, 1) := by decide +kernel
theorem dX0_init_43 : decode cX0_init 43 = .ok (.bipush 6, 2) := by decide +kernel
theorem dX0_init_45 : decode cX0_init 45 = .ok (.newarray .int, 2) := by decide +kernel
theorem dX0_init_47 : decode cX0_init 47 = .ok (.putfield 34, 3) := by decide +kernel
theorem dX0_init_50 : decode cX0_init 50 = .ok (.aload_n 0, 1) := by decide +kernel
theorem dX0_init_51 : decode cX0_init 51 = .ok (.bipush 10, 2) := by decide +kernel
theorem dX0_init_53 : decode cX0_init 53 = .ok (.newarray .int, 2) := by decide +kernel
theorem dX0_init_55 : decode cX0_init 55 = .ok (.putfield 37, 3) := by decide +kernel
theorem dX0_init_58 : decode cX0_init 58 = .ok (.aload_n 0, 1) := by decide +kernel
theorem dX0_init_59 : decode cX0_init 59 = .ok (.iconst 4, 1) := by decide +kernel
theorem dX0_init_60 : decode cX0_init 60 = .ok (.newarray .int, 2) := by decide +kernel
theorem dX0_init_62 : decode cX0_init 62 = .ok (.putfield 40, 3) := by decide +kernel
theorem dX0_init_65 : decode cX0_init 65 = .ok (.aload_n 0, 1) := by decide +kernel
theorem dX0_init_66 : decode cX0_init 66 = .ok (.iconst 4, 1) := by decide +kernel
theorem dX0_init_67 : decode cX0_init 67 = .ok (.newarray .int, 2) := by decide +kernel
theorem dX0_init_69 : decode cX0_init 69 = .ok (.putfield 43, 3) := by decide +kernel
theorem dX0_init_72 : decode cX0_init 72 = .ok (.return_, 1) := by decide +kernel
theorem dX0_setTerms_0 : decode cX0_setTerms 0 = .ok (.aload_n 0, 1) := by decide +kernel
theorem dX0_setTerms_1 : decode cX0_setTerms 1 = .ok (.iload_n 1, 1) := by decide +kernel
theorem dX0_setTerms_2 : decode cX0_setTerms 2 = .ok (.putfield 9, 3) := by decide +kernel
theorem dX0_setTerms_5 : decode cX0_setTerms 5 = .ok (.aload_n 0, 1) := by decide +kernel
theorem dX0_setTerms_6 : decode cX0_setTerms 6 = .ok (.iload_n 2, 1) := by decide +kernel
theorem dX0_setTerms_7 : decode cX0_setTerms 7 = .ok (.putfield 18, 3) := by decide +kernel
theorem dX0_setTerms_10 : decode cX0_setTerms 10 = .ok (.aload_n 0, 1) := by decide +kernel
theorem dX0_setTerms_11 : decode cX0_setTerms 11 = .ok (.iload_n 3, 1) := by decide +kernel
theorem dX0_setTerms_12 : decode cX0_setTerms 12 = .ok (.putfield 21, 3) := by decide +kernel
theorem dX0_setTerms_15 : decode cX0_setTerms 15 = .ok (.return_, 1) := by decide +kernel
theorem dX0_lastOffset_0 : decode cX0_lastOffset 0 = .ok (.aload_n 0, 1) := by decide +kernel
theorem dX0_lastOffset_1 : decode cX0_lastOffset 1 = .ok (.getfield 27, 3) := by decide +kernel
theorem dX0_lastOffset_4 : decode cX0_lastOffset 4 = .ok (.ifCond .ne 7, 3) := by decide +kernel
theorem dX0_lastOffset_7 : decode cX0_lastOffset 7 = .ok (.iconst (-1), 1) := by decide +kernel
theorem dX0_lastOffset_8 : decode cX0_lastOffset 8 = .ok (.goto 14, 3) := by decide +kernel
theorem dX0_lastOffset_11 : decode cX0_lastOffset 11 = .ok (.aload_n 0, 1) := by decide +kernel
theorem dX0_lastOffset_12 : decode cX0_lastOffset 12 = .ok (.getfield 34, 3) := by decide +kernel
theorem dX0_lastOffset_15 : decode cX0_lastOffset 15 = .ok (.aload_n 0, 1) := by decide +kernel
theorem dX0_lastOffset_16 : decode cX0_lastOffset 16 = .ok (.getfield 27, 3) := by decide +kernel
theorem dX0_lastOffset_19 : decode cX0_lastOffset 19 = .ok (.iconst 1, 1) := by decide +kernel
theorem dX0_lastOffset_20 : decode cX0_lastOffset 20 = .ok (.isub, 1) := by decide +kernel
theorem dX0_lastOffset_21 : decode cX0_lastOffset 21 = .ok (.iaload, 1) := by decide +kernel
theorem dX0_lastOffset_22 : decode cX0_lastOffset 22 = .ok (.ireturn, 1) := by decide +kernel
theorem dX0_isSnowedIn_0 : decode cX0_isSnowedIn 0 = .ok (.iload_n 1, 1) := by decide +kernel
theorem dX0_isSnowedIn_1 : decode cX0_isSnowedIn 1 = .ok (.iconst 0, 1) := by decide +kernel
theorem dX0_isSnowedIn_2 : decode cX0_isSnowedIn 2 = .ok (.sipush 300, 3) := by decide +kernel
theorem dX0_isSnowedIn_5 : decode cX0_isSnowedIn 5 = .ok (.invokestatic 46, 3) := by decide +kernel
theorem dX0_isSnowedIn_8 : decode cX0_isSnowedIn 8 = .ok (.ifCond .eq 26, 3) := by decide +kernel
theorem dX0_isSnowedIn_11 : decode cX0_isSnowedIn 11 = .ok (.aload_n 0, 1) := by decide +kernel
theorem dX0_isSnowedIn_12 : decode cX0_isSnowedIn 12 = .ok (.getfield 37, 3) := by decide +kernel
theorem dX0_isSnowedIn_15 : decode cX0_isSnowedIn 15 = .ok (.iload_n 1, 1) := by decide +kernel
theorem dX0_isSnowedIn_16 : decode cX0_isSnowedIn 16 = .ok (.bipush 32, 2) := by decide +kernel
theorem dX0_isSnowedIn_18 : decode cX0_isSnowedIn 18 = .ok (.idiv, 1) := by decide +kernel
theorem dX0_isSnowedIn_19 : decode cX0_isSnowedIn 19 = .ok (.iaload, 1) := by decide +kernel
theorem dX0_isSnowedIn_20 : decode cX0_isSnowedIn 20 = .ok (.iload_n 1, 1) := by decide +kernel
theorem dX0_isSnowedIn_21 : decode cX0_isSnowedIn 21 = .ok (.bipush 32, 2) := by decide +kernel
theorem dX0_isSnowedIn_23 : decode cX0_isSnowedIn 23 = .ok (.irem, 1) := by decide +kernel
theorem dX0_isSnowedIn_24 : decode cX0_isSnowedIn 24 = .ok (.ishr, 1) := by decide +kernel
theorem dX0_isSnowedIn_25 : decode cX0_isSnowedIn 25 = .ok (.iconst 1, 1) := by decide +kernel
theorem dX0_isSnowedIn_26 : decode cX0_isSnowedIn 26 = .ok (.iand, 1) := by decide +kernel
theorem dX0_isSnowedIn_27 : decode cX0_isSnowedIn 27 = .ok (.ifCond .eq 7, 3) := by decide +kernel
theorem dX0_isSnowedIn_30 : decode cX0_isSnowedIn 30 = .ok (.iconst 1, 1) := by decide +kernel
theorem dX0_isSnowedIn_31 : decode cX0_isSnowedIn 31 = .ok (.goto 4, 3) := by decide +kernel
theorem dX0_isSnowedIn_34 : decode cX0_isSnowedIn 34 = .ok (.iconst 0, 1) := by decide +kernel
theorem dX0_isSnowedIn_35 : decode cX0_isSnowedIn 35 = .ok (.ireturn, 1) := by decide +kernel
theorem dX0_addSnow_0 : decode cX0_addSnow 0 = .ok (.aload_n 0, 1) := by decide +kernel
theorem dX0_addSnow_1 : decode cX0_addSnow 1 = .ok (.getfield 37, 3) := by decide +kernel
theorem dX0_addSnow_4 : decode cX0_addSnow 4 = .ok (.iload_n 1, 1) := by decide +kernel
theorem dX0_addSnow_5 : decode cX0_addSnow 5 = .ok (.bipush 32, 2) := by decide +kernel
theorem dX0_addSnow_7 : decode cX0_addSnow 7 = .ok (.idiv, 1) := by decide +kernel
theorem dX0_addSnow_8 : decode cX0_addSnow 8 = .ok (.dup2, 1) := by decide +kernel
theorem dX0_addSnow_9 : decode cX0_addSnow 9 = .ok (.iaload, 1) := by decide +kernel
theorem dX0_addSnow_10 : decode cX0_addSnow 10 = .ok (.iconst 1, 1) := by decide +kernel
theorem dX0_addSnow_11 : decode cX0_addSnow 11 = .ok (.iload_n 1, 1) := by decide +kernel
theorem dX0_addSnow_12 : decode cX0_addSnow 12 = .ok (.bipush 32, 2) := by decide +kernel
theorem dX0_addSnow_14 : decode cX0_addSnow 14 = .ok (.irem, 1) := by decide +kernel
theorem dX0_addSnow_15 : decode cX0_addSnow 15 = .ok (.ishl, 1) := by decide +kernel
theorem dX0_addSnow_16 : decode cX0_addSnow 16 = .ok (.ior, 1) := by decide +kernel
theorem dX0_addSnow_17 : decode cX0_addSnow 17 = .ok (.iastore, 1) := by decide +kernel
theorem dX0_addSnow_18 : decode cX0_addSnow 18 = .ok (.return_, 1) := by decide +kernel
theorem dX0_goesOn_0 : decode cX0_goesOn 0 = .ok (.iload_n 1, 1) := by decide +kernel
theorem dX0_goesOn_1 : decode cX0_goesOn 1 = .ok (.ifCond .lt 17, 3) := by decide +kernel
theorem dX0_goesOn_4 : decode cX0_goesOn 4 = .ok (.aload_n 0, 1) := by decide +kernel
theorem dX0_goesOn_5 : decode cX0_goesOn 5 = .ok (.getfield 9, 3) := by decide +kernel
theorem dX0_goesOn_8 : decode cX0_goesOn 8 = .ok (.iload_n 1, 1) := by decide +kernel
theorem dX0_goesOn_9 : decode cX0_goesOn 9 = .ok (.bipush 7, 2) := by decide +kernel
theorem dX0_goesOn_11 : decode cX0_goesOn 11 = .ok (.irem, 1) := by decide +kernel
theorem dX0_goesOn_12 : decode cX0_goesOn 12 = .ok (.ishr, 1) := by decide +kernel
theorem dX0_goesOn_13 : decode cX0_goesOn 13 = .ok (.iconst 1, 1) := by decide +kernel
theorem dX0_goesOn_14 : decode cX0_goesOn 14 = .ok (.iand, 1) := by decide +kernel
theorem dX0_goesOn_15 : decode cX0_goesOn 15 = .ok (.ifCond .ne 5, 3) := by decide +kernel
theorem dX0_goesOn_18 : decode cX0_goesOn 18 = .ok (.iconst 0, 1) := by decide +kernel
theorem dX0_goesOn_19 : decode cX0_goesOn 19 = .ok (.ireturn, 1) := by decide +kernel
theorem dX0_goesOn_20 : decode cX0_goesOn 20 = .ok (.iload_n 1, 1) := by decide +kernel
theorem dX0_goesOn_21 : decode cX0_goesOn 21 = .ok (.sipush 300, 3) := by decide +kernel
theorem dX0_goesOn_24 : decode cX0_goesOn 24 = .ok (.if_icmp .gt 22, 3) := by decide +kernel
theorem dX0_goesOn_27 : decode cX0_goesOn 27 = .ok (.aload_n 0, 1) := by decide +kernel
theorem dX0_goesOn_28 : decode cX0_goesOn 28 = .ok (.getfield 37, 3) := by decide +kernel
theorem dX0_goesOn_31 : decode cX0_goesOn 31 = .ok (.iload_n 1, 1) := by decide +kernel
theorem dX0_goesOn_32 : decode cX0_goesOn 32 = .ok (.bipush 32, 2) := by decide +kernel
theorem dX0_goesOn_34 : decode cX0_goesOn 34 = .ok (.idiv, 1) := by decide +kernel
theorem dX0_goesOn_35 : decode cX0_goesOn 35 = .ok (.iaload, 1) := by decide +kernel
theorem dX0_goesOn_36 : decode cX0_goesOn 36 = .ok (.iload_n 1, 1) := by decide +kernel
theorem dX0_goesOn_37 : decode cX0_goesOn 37 = .ok (.bipush 32, 2) := by decide +kernel
theorem dX0_goesOn_39 : decode cX0_goesOn 39 = .ok (.irem, 1) := by decide +kernel
theorem dX0_goesOn_40 : decode cX0_goesOn 40 = .ok (.ishr, 1) := by decide +kernel
theorem dX0_goesOn_41 : decode cX0_goesOn 41 = .ok (.iconst 1, 1) := by decide +kernel
theorem dX0_goesOn_42 : decode cX0_goesOn 42 = .ok (.iand, 1) := by decide +kernel
theorem dX0_goesOn_43 : decode cX0_goesOn 43 = .ok (.ifCond .ne 7, 3) := by decide +kernel
theorem dX0_goesOn_46 : decode cX0_goesOn 46 = .ok (.iconst 1, 1) := by decide +kernel
theorem dX0_goesOn_47 : decode cX0_goesOn 47 = .ok (.goto 4, 3) := by decide +kernel
theorem dX0_goesOn_50 : decode cX0_goesOn 50 = .ok (.iconst 0, 1) := by decide +kernel
theorem dX0_goesOn_51 : decode cX0_goesOn 51 = .ok (.ireturn, 1) := by decide +kernel
theorem dX0_hourAt_0 : decode cX0_hourAt 0 = .ok (.bipush 24, 2) := by decide +kernel
theorem dX0_hourAt_2 : decode cX0_hourAt 2 = .ok (.iload_n 2, 1) := by decide +kernel
theorem dX0_hourAt_3 : decode cX0_hourAt 3 = .ok (.imul, 1) := by decide +kernel
theorem dX0_hourAt_4 : decode cX0_hourAt 4 = .ok (.aload_n 0, 1) := by decide +kernel
theorem dX0_hourAt_5 : decode cX0_hourAt 5 = .ok (.getfield 15, 3) := by decide +kernel
theorem dX0_hourAt_8 : decode cX0_hourAt 8 = .ok (.iadd, 1) := by decide +kernel
theorem dX0_hourAt_9 : decode cX0_hourAt 9 = .ok (.aload_n 0, 1) := by decide +kernel
theorem dX0_hourAt_10 : decode cX0_hourAt 10 = .ok (.getfield 34, 3) := by decide +kernel
theorem dX0_hourAt_13 : decode cX0_hourAt 13 = .ok (.iload_n 1, 1) := by decide +kernel
theorem dX0_hourAt_14 : decode cX0_hourAt 14 = .ok (.iaload, 1) := by decide +kernel
theorem dX0_hourAt_15 : decode cX0_hourAt 15 = .ok (.iadd, 1) := by decide +kernel
theorem dX0_hourAt_16 : decode cX0_hourAt 16 = .ok (.ireturn, 1) := by decide +kernel
theorem dX0_dayOf_0 : decode cX0_dayOf 0 = .ok (.iload_n 2, 1) := by decide +kernel
theorem dX0_dayOf_1 : decode cX0_dayOf 1 = .ok (.aload_n 0, 1) := by decide +kernel
theorem dX0_dayOf_2 : decode cX0_dayOf 2 = .ok (.getfield 15, 3) := by decide +kernel
theorem dX0_dayOf_5 : decode cX0_dayOf 5 = .ok (.isub, 1) := by decide +kernel
theorem dX0_dayOf_6 : decode cX0_dayOf 6 = .ok (.aload_n 0, 1) := by decide +kernel
theorem dX0_dayOf_7 : decode cX0_dayOf 7 = .ok (.getfield 34, 3) := by decide +kernel
theorem dX0_dayOf_10 : decode cX0_dayOf 10 = .ok (.iload_n 1, 1) := by decide +kernel
theorem dX0_dayOf_11 : decode cX0_dayOf 11 = .ok (.iaload, 1) := by decide +kernel
theorem dX0_dayOf_12 : decode cX0_dayOf 12 = .ok (.isub, 1) := by decide +kernel
theorem dX0_dayOf_13 : decode cX0_dayOf 13 = .ok (.bipush 24, 2) := by decide +kernel
theorem dX0_dayOf_15 : decode cX0_dayOf 15 = .ok (.idiv, 1) := by decide +kernel
theorem dX0_dayOf_16 : decode cX0_dayOf 16 = .ok (.ireturn, 1) := by decide +kernel
theorem dX0_takesFrom_0 : decode cX0_takesFrom 0 = .ok (.aload_n 0, 1) := by decide +kernel
theorem dX0_takesFrom_1 : decode cX0_takesFrom 1 = .ok (.getfield 30, 3) := by decide +kernel
theorem dX0_takesFrom_4 : decode cX0_takesFrom 4 = .ok (.iload_n 2, 1) := by decide +kernel
theorem dX0_takesFrom_5 : decode cX0_takesFrom 5 = .ok (.iaload, 1) := by decide +kernel
theorem dX0_takesFrom_6 : decode cX0_takesFrom 6 = .ok (.iload_n 1, 1) := by decide +kernel
theorem dX0_takesFrom_7 : decode cX0_takesFrom 7 = .ok (.if_icmp .ne 17, 3) := by decide +kernel
theorem dX0_takesFrom_10 : decode cX0_takesFrom 10 = .ok (.iload_n 2, 1) := by decide +kernel
theorem dX0_takesFrom_11 : decode cX0_takesFrom 11 = .ok (.iconst 1, 1) := by decide +kernel
theorem dX0_takesFrom_12 : decode cX0_takesFrom 12 = .ok (.iadd, 1) := by decide +kernel
theorem dX0_takesFrom_13 : decode cX0_takesFrom 13 = .ok (.aload_n 0, 1) := by decide +kernel
theorem dX0_takesFrom_14 : decode cX0_takesFrom 14 = .ok (.getfield 27, 3) := by decide +kernel
theorem dX0_takesFrom_17 : decode cX0_takesFrom 17 = .ok (.if_icmp .ge 7, 3) := by decide +kernel
theorem dX0_takesFrom_20 : decode cX0_takesFrom 20 = .ok (.iconst 1, 1) := by decide +kernel
theorem dX0_takesFrom_21 : decode cX0_takesFrom 21 = .ok (.goto 4, 3) := by decide +kernel
theorem dX0_takesFrom_24 : decode cX0_takesFrom 24 = .ok (.iconst 0, 1) := by decide +kernel
theorem dX0_takesFrom_25 : decode cX0_takesFrom 25 = .ok (.ireturn, 1) := by decide +kernel
theorem dX0_lastInTime_0 : decode cX0_lastInTime 0 = .ok (.aload_n 0, 1) := by decide +kernel
theorem dX0_lastInTime_1 : decode cX0_lastInTime 1 = .ok (.getfield 27, 3) := by decide +kernel
theorem dX0_lastInTime_4 : decode cX0_lastInTime 4 = .ok (.iconst 1, 1) := by decide +kernel
theorem dX0_lastInTime_5 : decode cX0_lastInTime 5 = .ok (.isub, 1) := by decide +kernel
theorem dX0_lastInTime_6 : decode cX0_lastInTime 6 = .ok (.istore 4, 2) := by decide +kernel
theorem dX0_lastInTime_8 : decode cX0_lastInTime 8 = .ok (.iload 4, 2) := by decide +kernel
theorem dX0_lastInTime_10 : decode cX0_lastInTime 10 = .ok (.iload_n 1, 1) := by decide +kernel
theorem dX0_lastInTime_11 : decode cX0_lastInTime 11 = .ok (.if_icmp .le 31, 3) := by decide +kernel
theorem dX0_lastInTime_14 : decode cX0_lastInTime 14 = .ok (.aload_n 0, 1) := by decide +kernel
theorem dX0_lastInTime_15 : decode cX0_lastInTime 15 = .ok (.iload 4, 2) := by decide +kernel
theorem dX0_lastInTime_17 : decode cX0_lastInTime 17 = .ok (.iload_n 2, 1) := by decide +kernel
theorem dX0_lastInTime_18 : decode cX0_lastInTime 18 = .ok (.invokevirtual 50, 3) := by decide +kernel
theorem dX0_lastInTime_21 : decode cX0_lastInTime 21 = .ok (.aload_n 3, 1) := by decide +kernel
theorem dX0_lastInTime_22 : decode cX0_lastInTime 22 = .ok (.aload_n 0, 1) := by decide +kernel
theorem dX0_lastInTime_23 : decode cX0_lastInTime 23 = .ok (.getfield 30, 3) := by decide +kernel
theorem dX0_lastInTime_26 : decode cX0_lastInTime 26 = .ok (.iload 4, 2) := by decide +kernel
theorem dX0_lastInTime_28 : decode cX0_lastInTime 28 = .ok (.iaload, 1) := by decide +kernel
theorem dX0_lastInTime_29 : decode cX0_lastInTime 29 = .ok (.iaload, 1) := by decide +kernel
theorem dX0_lastInTime_30 : decode cX0_lastInTime 30 = .ok (.if_icmp .gt 6, 3) := by decide +kernel
theorem dX0_lastInTime_33 : decode cX0_lastInTime 33 = .ok (.iload 4, 2) := by decide +kernel
theorem dX0_lastInTime_35 : decode cX0_lastInTime 35 = .ok (.ireturn, 1) := by decide +kernel
theorem dX0_lastInTime_36 : decode cX0_lastInTime 36 = .ok (.iinc 4 (-1), 3) := by decide +kernel
theorem dX0_lastInTime_39 : decode cX0_lastInTime 39 = .ok (.goto (-31), 3) := by decide +kernel
theorem dX0_lastInTime_42 : decode cX0_lastInTime 42 = .ok (.iconst (-1), 1) := by decide +kernel
theorem dX0_lastInTime_43 : decode cX0_lastInTime 43 = .ok (.ireturn, 1) := by decide +kernel
theorem dX0_roomLeft_0 : decode cX0_roomLeft 0 = .ok (.iload_n 1, 1) := by decide +kernel
theorem dX0_roomLeft_1 : decode cX0_roomLeft 1 = .ok (.iconst 4, 1) := by decide +kernel
theorem dX0_roomLeft_2 : decode cX0_roomLeft 2 = .ok (.irem, 1) := by decide +kernel
theorem dX0_roomLeft_3 : decode cX0_roomLeft 3 = .ok (.istore_n 2, 1) := by decide +kernel
theorem dX0_roomLeft_4 : decode cX0_roomLeft 4 = .ok (.aload_n 0, 1) := by decide +kernel
theorem dX0_roomLeft_5 : decode cX0_roomLeft 5 = .ok (.getfield 43, 3) := by decide +kernel
theorem dX0_roomLeft_8 : decode cX0_roomLeft 8 = .ok (.iload_n 2, 1) := by decide +kernel
theorem dX0_roomLeft_9 : decode cX0_roomLeft 9 = .ok (.iaload, 1) := by decide +kernel
theorem dX0_roomLeft_10 : decode cX0_roomLeft 10 = .ok (.iload_n 1, 1) := by decide +kernel
theorem dX0_roomLeft_11 : decode cX0_roomLeft 11 = .ok (.if_icmp .ne 17, 3) := by decide +kernel
theorem dX0_roomLeft_14 : decode cX0_roomLeft 14 = .ok (.aload_n 0, 1) := by decide +kernel
theorem dX0_roomLeft_15 : decode cX0_roomLeft 15 = .ok (.getfield 18, 3) := by decide +kernel
theorem dX0_roomLeft_18 : decode cX0_roomLeft 18 = .ok (.aload_n 0, 1) := by decide +kernel
theorem dX0_roomLeft_19 : decode cX0_roomLeft 19 = .ok (.getfield 40, 3) := by decide +kernel
theorem dX0_roomLeft_22 : decode cX0_roomLeft 22 = .ok (.iload_n 2, 1) := by decide +kernel
theorem dX0_roomLeft_23 : decode cX0_roomLeft 23 = .ok (.iaload, 1) := by decide +kernel
theorem dX0_roomLeft_24 : decode cX0_roomLeft 24 = .ok (.isub, 1) := by decide +kernel
theorem dX0_roomLeft_25 : decode cX0_roomLeft 25 = .ok (.goto 7, 3) := by decide +kernel
theorem dX0_roomLeft_28 : decode cX0_roomLeft 28 = .ok (.aload_n 0, 1) := by decide +kernel
theorem dX0_roomLeft_29 : decode cX0_roomLeft 29 = .ok (.getfield 18, 3) := by decide +kernel
theorem dX0_roomLeft_32 : decode cX0_roomLeft 32 = .ok (.ireturn, 1) := by decide +kernel
theorem dX0_load_0 : decode cX0_load 0 = .ok (.iload_n 1, 1) := by decide +kernel
theorem dX0_load_1 : decode cX0_load 1 = .ok (.iconst 4, 1) := by decide +kernel
theorem dX0_load_2 : decode cX0_load 2 = .ok (.irem, 1) := by decide +kernel
theorem dX0_load_3 : decode cX0_load 3 = .ok (.istore_n 3, 1) := by decide +kernel
theorem dX0_load_4 : decode cX0_load 4 = .ok (.aload_n 0, 1) := by decide +kernel
theorem dX0_load_5 : decode cX0_load 5 = .ok (.getfield 43, 3) := by decide +kernel
theorem dX0_load_8 : decode cX0_load 8 = .ok (.iload_n 3, 1) := by decide +kernel
theorem dX0_load_9 : decode cX0_load 9 = .ok (.iaload, 1) := by decide +kernel
theorem dX0_load_10 : decode cX0_load 10 = .ok (.iload_n 1, 1) := by decide +kernel
theorem dX0_load_11 : decode cX0_load 11 = .ok (.if_icmp .eq 17, 3) := by decide +kernel
theorem dX0_load_14 : decode cX0_load 14 = .ok (.aload_n 0, 1) := by decide +kernel
theorem dX0_load_15 : decode cX0_load 15 = .ok (.getfield 43, 3) := by decide +kernel
theorem dX0_load_18 : decode cX0_load 18 = .ok (.iload_n 3, 1) := by decide +kernel
theorem dX0_load_19 : decode cX0_load 19 = .ok (.iload_n 1, 1) := by decide +kernel
theorem dX0_load_20 : decode cX0_load 20 = .ok (.iastore, 1) := by decide +kernel
theorem dX0_load_21 : decode cX0_load 21 = .ok (.aload_n 0, 1) := by decide +kernel
theorem dX0_load_22 : decode cX0_load 22 = .ok (.getfield 40, 3) := by decide +kernel
theorem dX0_load_25 : decode cX0_load 25 = .ok (.iload_n 3, 1) := by decide +kernel
theorem dX0_load_26 : decode cX0_load 26 = .ok (.iconst 0, 1) := by decide +kernel
theorem dX0_load_27 : decode cX0_load 27 = .ok (.iastore, 1) := by decide +kernel
theorem dX0_load_28 : decode cX0_load 28 = .ok (.aload_n 0, 1) := by decide +kernel
theorem dX0_load_29 : decode cX0_load 29 = .ok (.getfield 40, 3) := by decide +kernel
theorem dX0_load_32 : decode cX0_load 32 = .ok (.iload_n 3, 1) := by decide +kernel
theorem dX0_load_33 : decode cX0_load 33 = .ok (.dup2, 1) := by decide +kernel
theorem dX0_load_34 : decode cX0_load 34 = .ok (.iaload, 1) := by decide +kernel
theorem dX0_load_35 : decode cX0_load 35 = .ok (.iload_n 2, 1) := by decide +kernel
theorem dX0_load_36 : decode cX0_load 36 = .ok (.iadd, 1) := by decide +kernel
theorem dX0_load_37 : decode cX0_load 37 = .ok (.iastore, 1) := by decide +kernel
theorem dX0_load_38 : decode cX0_load 38 = .ok (.return_, 1) := by decide +kernel
theorem dX0_unload_0 : decode cX0_unload 0 = .ok (.aload_n 0, 1) := by decide +kernel
theorem dX0_unload_1 : decode cX0_unload 1 = .ok (.getfield 40, 3) := by decide +kernel
theorem dX0_unload_4 : decode cX0_unload 4 = .ok (.iload_n 1, 1) := by decide +kernel
theorem dX0_unload_5 : decode cX0_unload 5 = .ok (.iconst 4, 1) := by decide +kernel
theorem dX0_unload_6 : decode cX0_unload 6 = .ok (.irem, 1) := by decide +kernel
theorem dX0_unload_7 : decode cX0_unload 7 = .ok (.dup2, 1) := by decide +kernel
theorem dX0_unload_8 : decode cX0_unload 8 = .ok (.iaload, 1) := by decide +kernel
theorem dX0_unload_9 : decode cX0_unload 9 = .ok (.iload_n 2, 1) := by decide +kernel
theorem dX0_unload_10 : decode cX0_unload 10 = .ok (.isub, 1) := by decide +kernel
theorem dX0_unload_11 : decode cX0_unload 11 = .ok (.iastore, 1) := by decide +kernel
theorem dX0_unload_12 : decode cX0_unload 12 = .ok (.aload_n 0, 1) := by decide +kernel
theorem dX0_unload_13 : decode cX0_unload 13 = .ok (.dup, 1) := by decide +kernel
theorem dX0_unload_14 : decode cX0_unload 14 = .ok (.getfield 24, 3) := by decide +kernel
theorem dX0_unload_17 : decode cX0_unload 17 = .ok (.iload_n 2, 1) := by decide +kernel
theorem dX0_unload_18 : decode cX0_unload 18 = .ok (.aload_n 0, 1) := by decide +kernel
theorem dX0_unload_19 : decode cX0_unload 19 = .ok (.getfield 21, 3) := by decide +kernel
theorem dX0_unload_22 : decode cX0_unload 22 = .ok (.imul, 1) := by decide +kernel
theorem dX0_unload_23 : decode cX0_unload 23 = .ok (.iadd, 1) := by decide +kernel
theorem dX0_unload_24 : decode cX0_unload 24 = .ok (.putfield 24, 3) := by decide +kernel
theorem dX0_unload_27 : decode cX0_unload 27 = .ok (.return_, 1) := by decide +kernel
theorem dX0_isLaden_0 : decode cX0_isLaden 0 = .ok (.iconst 0, 1) := by decide +kernel
theorem dX0_isLaden_1 : decode cX0_isLaden 1 = .ok (.istore_n 1, 1) := by decide +kernel
theorem dX0_isLaden_2 : decode cX0_isLaden 2 = .ok (.iload_n 1, 1) := by decide +kernel
theorem dX0_isLaden_3 : decode cX0_isLaden 3 = .ok (.iconst 4, 1) := by decide +kernel
theorem dX0_isLaden_4 : decode cX0_isLaden 4 = .ok (.if_icmp .ge 20, 3) := by decide +kernel
theorem dX0_isLaden_7 : decode cX0_isLaden 7 = .ok (.aload_n 0, 1) := by decide +kernel
theorem dX0_isLaden_8 : decode cX0_isLaden 8 = .ok (.getfield 40, 3) := by decide +kernel
theorem dX0_isLaden_11 : decode cX0_isLaden 11 = .ok (.iload_n 1, 1) := by decide +kernel
theorem dX0_isLaden_12 : decode cX0_isLaden 12 = .ok (.iaload, 1) := by decide +kernel
theorem dX0_isLaden_13 : decode cX0_isLaden 13 = .ok (.ifCond .le 5, 3) := by decide +kernel
theorem dX0_isLaden_16 : decode cX0_isLaden 16 = .ok (.iconst 1, 1) := by decide +kernel
theorem dX0_isLaden_17 : decode cX0_isLaden 17 = .ok (.ireturn, 1) := by decide +kernel
theorem dX0_isLaden_18 : decode cX0_isLaden 18 = .ok (.iinc 1 1, 3) := by decide +kernel
theorem dX0_isLaden_21 : decode cX0_isLaden 21 = .ok (.goto (-19), 3) := by decide +kernel
theorem dX0_isLaden_24 : decode cX0_isLaden 24 = .ok (.iconst 0, 1) := by decide +kernel
theorem dX0_isLaden_25 : decode cX0_isLaden 25 = .ok (.ireturn, 1) := by decide +kernel
theorem dX1_init_0 : decode cX1_init 0 = .ok (.aload_n 0, 1) := by decide +kernel
theorem dX1_init_1 : decode cX1_init 1 = .ok (.invokespecial 5, 3) := by decide +kernel
theorem dX1_init_4 : decode cX1_init 4 = .ok (.aload_n 0, 1) := by decide +kernel
theorem dX1_init_5 : decode cX1_init 5 = .ok (.bipush 81, 2) := by decide +kernel
theorem dX1_init_7 : decode cX1_init 7 = .ok (.newarray .int, 2) := by decide +kernel
theorem dX1_init_9 : decode cX1_init 9 = .ok (.putfield 11, 3) := by decide +kernel
theorem dX1_init_12 : decode cX1_init 12 = .ok (.aload_n 0, 1) := by decide +kernel
theorem dX1_init_13 : decode cX1_init 13 = .ok (.bipush 9, 2) := by decide +kernel
theorem dX1_init_15 : decode cX1_init 15 = .ok (.newarray .int, 2) := by decide +kernel
theorem dX1_init_17 : decode cX1_init 17 = .ok (.putfield 15, 3) := by decide +kernel
theorem dX1_init_20 : decode cX1_init 20 = .ok (.aload_n 0, 1) := by decide +kernel
theorem dX1_init_21 : decode cX1_init 21 = .ok (.bipush 9, 2) := by decide +kernel
theorem dX1_init_23 : decode cX1_init 23 = .ok (.newarray .int, 2) := by decide +kernel
theorem dX1_init_25 : decode cX1_init 25 = .ok (.putfield 18, 3) := by decide +kernel
theorem dX1_init_28 : decode cX1_init 28 = .ok (.aload_n 0, 1) := by decide +kernel
theorem dX1_init_29 : decode cX1_init 29 = .ok (.sipush 2304, 3) := by decide +kernel
theorem dX1_init_32 : decode cX1_init 32 = .ok (.newarray .int, 2) := by decide +kernel
theorem dX1_init_34 : decode cX1_init 34 = .ok (.putfield 21, 3) := by decide +kernel
theorem dX1_init_37 : decode cX1_init 37 = .ok (.aload_n 0, 1) := by decide +kernel
theorem dX1_init_38 : decode cX1_init 38 = .ok (.iconst 0, 1) := by decide +kernel
theorem dX1_init_39 : decode cX1_init 39 = .ok (.putfield 24, 3) := by decide +kernel
theorem dX1_init_42 : decode cX1_init 42 = .ok (.aload_n 0, 1) := by decide +kernel
theorem dX1_init_43 : decode cX1_init 43 = .ok (.iconst 0, 1) := by decide +kernel
theorem dX1_init_44 : decode cX1_init 44 = .ok (.putfield 28, 3) := by decide +kernel
theorem dX1_init_47 : decode cX1_init 47 = .ok (.aload_n 0, 1) := by decide +kernel
theorem dX1_init_48 : decode cX1_init 48 = .ok (.iconst (-1), 1) := by decide +kernel
theorem dX1_init_49 : decode cX1_init 49 = .ok (.putfield 32, 3) := by decide +kernel
theorem dX1_init_52 : decode cX1_init 52 = .ok (.aload_n 0, 1) := by decide +kernel
theorem dX1_init_53 : decode cX1_init 53 = .ok (.iconst 0, 1) := by decide +kernel
theorem dX1_init_54 : decode cX1_init 54 = .ok (.putfield 35, 3) := by decide +kernel
theorem dX1_init_57 : decode cX1_init 57 = .ok (.aload_n 0, 1) := by decide +kernel
theorem dX1_init_58 : decode cX1_init 58 = .ok (.iconst 0, 1) := by decide +kernel
theorem dX1_init_59 : decode cX1_init 59 = .ok (.putfield 38, 3) := by decide +kernel
theorem dX1_init_62 : decode cX1_init 62 = .ok (.aload_n 0, 1) := by decide +kernel
theorem dX1_init_63 : decode cX1_init 63 = .ok (.iconst 0, 1) := by decide +kernel
theorem dX1_init_64 : decode cX1_init 64 = .ok (.putfield 41, 3) := by decide +kernel
theorem dX1_init_67 : decode cX1_init 67 = .ok (.aload_n 0, 1) := by decide +kernel
theorem dX1_init_68 : decode cX1_init 68 = .ok (.lconst 0, 1) := by decide +kernel
theorem dX1_init_69 : decode cX1_init 69 = .ok (.putfield 44, 3) := by decide +kernel
theorem dX1_init_72 : decode cX1_init 72 = .ok (.iconst 0, 1) := by decide +kernel
theorem dX1_init_73 : decode cX1_init 73 = .ok (.istore_n 1, 1) := by decide +kernel
theorem dX1_init_74 : decode cX1_init 74 = .ok (.iload_n 1, 1) := by decide +kernel
theorem dX1_init_75 : decode cX1_init 75 = .ok (.bipush 9, 2) := by decide +kernel
theorem dX1_init_77 : decode cX1_init 77 = .ok (.if_icmp .ge 45, 3) := by decide +kernel
theorem dX1_init_80 : decode cX1_init 80 = .ok (.iconst 0, 1) := by decide +kernel
theorem dX1_init_81 : decode cX1_init 81 = .ok (.istore_n 2, 1) := by decide +kernel
theorem dX1_init_82 : decode cX1_init 82 = .ok (.iload_n 2, 1) := by decide +kernel
theorem dX1_init_83 : decode cX1_init 83 = .ok (.bipush 9, 2) := by decide +kernel
theorem dX1_init_85 : decode cX1_init 85 = .ok (.if_icmp .ge 31, 3) := by decide +kernel
theorem dX1_init_88 : decode cX1_init 88 = .ok (.aload_n 0, 1) := by decide +kernel
theorem dX1_init_89 : decode cX1_init 89 = .ok (.getfield 11, 3) := by decide +kernel
theorem dX1_init_92 : decode cX1_init 92 = .ok (.iload_n 1, 1) := by decide +kernel
theorem dX1_init_93 : decode cX1_init 93 = .ok (.bipush 9, 2) := by decide +kernel
theorem dX1_init_95 : decode cX1_init 95 = .ok (.imul, 1) := by decide +kernel
theorem dX1_init_96 : decode cX1_init 96 = .ok (.iload_n 2, 1) := by decide +kernel
theorem dX1_init_97 : decode cX1_init 97 = .ok (.iadd, 1) := by decide +kernel
theorem dX1_init_98 : decode cX1_init 98 = .ok (.iload_n 1, 1) := by decide +kernel
theorem dX1_init_99 : decode cX1_init 99 = .ok (.iload_n 2, 1) := by decide +kernel
theorem dX1_init_100 : decode cX1_init 100 = .ok (.if_icmp .ne 7, 3) := by decide +kernel
theorem dX1_init_103 : decode cX1_init 103 = .ok (.iconst 0, 1) := by decide +kernel
theorem dX1_init_104 : decode cX1_init 104 = .ok (.goto 5, 3) := by decide +kernel
theorem dX1_init_107 : decode cX1_init 107 = .ok (.bipush 10, 2) := by decide +kernel
theorem dX1_init_109 : decode cX1_init 109 = .ok (.iastore, 1) := by decide +kernel
theorem dX1_init_110 : decode cX1_init 110 = .ok (.iinc 2 1, 3) := by decide +kernel
theorem dX1_init_113 : decode cX1_init 113 = .ok (.goto (-31), 3) := by decide +kernel
theorem dX1_init_116 : decode cX1_init 116 = .ok (.iinc 1 1, 3) := by decide +kernel
theorem dX1_init_119 : decode cX1_init 119 = .ok (.goto (-45), 3) := by decide +kernel
theorem dX1_init_122 : decode cX1_init 122 = .ok (.return_, 1) := by decide +kernel
theorem dX1_setWalk_0 : decode cX1_setWalk 0 = .ok (.aload_n 0, 1) := by decide +kernel
theorem dX1_setWalk_1 : decode cX1_setWalk 1 = .ok (.getfield 11, 3) := by decide +kernel
theorem dX1_setWalk_4 : decode cX1_setWalk 4 = .ok (.iload_n 1, 1) := by decide +kernel
theorem dX1_setWalk_5 : decode cX1_setWalk 5 = .ok (.bipush 9, 2) := by decide +kernel
theorem dX1_setWalk_7 : decode cX1_setWalk 7 = .ok (.imul, 1) := by decide +kernel
theorem dX1_setWalk_8 : decode cX1_setWalk 8 = .ok (.iload_n 2, 1) := by decide +kernel
theorem dX1_setWalk_9 : decode cX1_setWalk 9 = .ok (.iadd, 1) := by decide +kernel
theorem dX1_setWalk_10 : decode cX1_setWalk 10 = .ok (.iload_n 3, 1) := by decide +kernel
theorem dX1_setWalk_11 : decode cX1_setWalk 11 = .ok (.iastore, 1) := by decide +kernel
theorem dX1_setWalk_12 : decode cX1_setWalk 12 = .ok (.aload_n 0, 1) := by decide +kernel
theorem dX1_setWalk_13 : decode cX1_setWalk 13 = .ok (.getfield 11, 3) := by decide +kernel
theorem dX1_setWalk_16 : decode cX1_setWalk 16 = .ok (.iload_n 2, 1) := by decide +kernel
theorem dX1_setWalk_17 : decode cX1_setWalk 17 = .ok (.bipush 9, 2) := by decide +kernel
theorem dX1_setWalk_19 : decode cX1_setWalk 19 = .ok (.imul, 1) := by decide +kernel
theorem dX1_setWalk_20 : decode cX1_setWalk 20 = .ok (.iload_n 1, 1) := by decide +kernel
theorem dX1_setWalk_21 : decode cX1_setWalk 21 = .ok (.iadd, 1) := by decide +kernel
theorem dX1_setWalk_22 : decode cX1_setWalk 22 = .ok (.iload_n 3, 1) := by decide +kernel
theorem dX1_setWalk_23 : decode cX1_setWalk 23 = .ok (.iastore, 1) := by decide +kernel
theorem dX1_setWalk_24 : decode cX1_setWalk 24 = .ok (.aload_n 0, 1) := by decide +kernel
theorem dX1_setWalk_25 : decode cX1_setWalk 25 = .ok (.invokevirtual 48, 3) := by decide +kernel
theorem dX1_setWalk_28 : decode cX1_setWalk 28 = .ok (.return_, 1) := by decide +kernel
theorem dX1_put_0 : decode cX1_put 0 = .ok (.aload_n 0, 1) := by decide +kernel
theorem dX1_put_1 : decode cX1_put 1 = .ok (.dup, 1) := by decide +kernel
theorem dX1_put_2 : decode cX1_put 2 = .ok (.getfield 24, 3) := by decide +kernel
theorem dX1_put_5 : decode cX1_put 5 = .ok (.iload_n 1, 1) := by decide +kernel
theorem dX1_put_6 : decode cX1_put 6 = .ok (.invokestatic 51, 3) := by decide +kernel
theorem dX1_put_9 : decode cX1_put 9 = .ok (.ior, 1) := by decide +kernel
theorem dX1_put_10 : decode cX1_put 10 = .ok (.putfield 24, 3) := by decide +kernel
theorem dX1_put_13 : decode cX1_put 13 = .ok (.aload_n 0, 1) := by decide +kernel
theorem dX1_put_14 : decode cX1_put 14 = .ok (.getfield 15, 3) := by decide +kernel
theorem dX1_put_17 : decode cX1_put 17 = .ok (.iload_n 1, 1) := by decide +kernel
theorem dX1_put_18 : decode cX1_put 18 = .ok (.iload_n 2, 1) := by decide +kernel
theorem dX1_put_19 : decode cX1_put 19 = .ok (.iastore, 1) := by decide +kernel
theorem dX1_put_20 : decode cX1_put 20 = .ok (.aload_n 0, 1) := by decide +kernel
theorem dX1_put_21 : decode cX1_put 21 = .ok (.getfield 18, 3) := by decide +kernel
theorem dX1_put_24 : decode cX1_put 24 = .ok (.iload_n 1, 1) := by decide +kernel
theorem dX1_put_25 : decode cX1_put 25 = .ok (.iload_n 3, 1) := by decide +kernel
theorem dX1_put_26 : decode cX1_put 26 = .ok (.iastore, 1) := by decide +kernel
theorem dX1_put_27 : decode cX1_put 27 = .ok (.aload_n 0, 1) := by decide +kernel
theorem dX1_put_28 : decode cX1_put 28 = .ok (.invokevirtual 48, 3) := by decide +kernel
theorem dX1_put_31 : decode cX1_put 31 = .ok (.return_, 1) := by decide +kernel
theorem dX1_empty_0 : decode cX1_empty 0 = .ok (.aload_n 0, 1) := by decide +kernel
theorem dX1_empty_1 : decode cX1_empty 1 = .ok (.iconst 0, 1) := by decide +kernel
theorem dX1_empty_2 : decode cX1_empty 2 = .ok (.putfield 24, 3) := by decide +kernel
theorem dX1_empty_5 : decode cX1_empty 5 = .ok (.aload_n 0, 1) := by decide +kernel
theorem dX1_empty_6 : decode cX1_empty 6 = .ok (.invokevirtual 48, 3) := by decide +kernel
theorem dX1_empty_9 : decode cX1_empty 9 = .ok (.return_, 1) := by decide +kernel
theorem dX1_forget_0 : decode cX1_forget 0 = .ok (.aload_n 0, 1) := by decide +kernel
theorem dX1_forget_1 : decode cX1_forget 1 = .ok (.iconst 0, 1) := by decide +kernel
theorem dX1_forget_2 : decode cX1_forget 2 = .ok (.putfield 28, 3) := by decide +kernel
theorem dX1_forget_5 : decode cX1_forget 5 = .ok (.aload_n 0, 1) := by decide +kernel
theorem dX1_forget_6 : decode cX1_forget 6 = .ok (.iconst (-1), 1) := by decide +kernel
theorem dX1_forget_7 : decode cX1_forget 7 = .ok (.putfield 32, 3) := by decide +kernel
theorem dX1_forget_10 : decode cX1_forget 10 = .ok (.return_, 1) := by decide +kernel
theorem dX1_bitOf_0 : decode cX1_bitOf 0 = .ok (.iconst 1, 1) := by decide +kernel
theorem dX1_bitOf_1 : decode cX1_bitOf 1 = .ok (.iload_n 0, 1) := by decide +kernel
theorem dX1_bitOf_2 : decode cX1_bitOf 2 = .ok (.iconst 1, 1) := by decide +kernel
theorem dX1_bitOf_3 : decode cX1_bitOf 3 = .ok (.isub, 1) := by decide +kernel
theorem dX1_bitOf_4 : decode cX1_bitOf 4 = .ok (.ishl, 1) := by decide +kernel
theorem dX1_bitOf_5 : decode cX1_bitOf 5 = .ok (.ireturn, 1) := by decide +kernel
theorem dX1_measure_0 : decode cX1_measure 0 = .ok (.iconst 0, 1) := by decide +kernel
theorem dX1_measure_1 : decode cX1_measure 1 = .ok (.istore_n 1, 1) := by decide +kernel
theorem dX1_measure_2 : decode cX1_measure 2 = .ok (.iload_n 1, 1) := by decide +kernel
theorem dX1_measure_3 : decode cX1_measure 3 = .ok (.sipush 256, 3) := by decide +kernel
theorem dX1_measure_6 : decode cX1_measure 6 = .ok (.if_icmp .ge 85, 3) := by decide +kernel
theorem dX1_measure_9 : decode cX1_measure 9 = .ok (.iload_n 1, 1) := by decide +kernel
theorem dX1_measure_10 : decode cX1_measure 10 = .ok (.aload_n 0, 1) := by decide +kernel
theorem dX1_measure_11 : decode cX1_measure 11 = .ok (.getfield 24, 3) := by decide +kernel
theorem dX1_measure_14 : decode cX1_measure 14 = .ok (.iconst (-1), 1) := by decide +kernel
theorem dX1_measure_15 : decode cX1_measure 15 = .ok (.ixor, 1) := by decide +kernel
theorem dX1_measure_16 : decode cX1_measure 16 = .ok (.iand, 1) := by decide +kernel
theorem dX1_measure_17 : decode cX1_measure 17 = .ok (.ifCond .eq 6, 3) := by decide +kernel
theorem dX1_measure_20 : decode cX1_measure 20 = .ok (.goto 65, 3) := by decide +kernel
theorem dX1_measure_23 : decode cX1_measure 23 = .ok (.aload_n 0, 1) := by decide +kernel
theorem dX1_measure_24 : decode cX1_measure 24 = .ok (.getfield 21, 3) := by decide +kernel
theorem dX1_measure_27 : decode cX1_measure 27 = .ok (.iload_n 1, 1) := by decide +kernel
theorem dX1_measure_28 : decode cX1_measure 28 = .ok (.bipush 9, 2) := by decide +kernel
theorem dX1_measure_30 : decode cX1_measure 30 = .ok (.imul, 1) := by decide +kernel
theorem dX1_measure_31 : decode cX1_measure 31 = .ok (.aload_n 0, 1) := by decide +kernel
theorem dX1_measure_32 : decode cX1_measure 32 = .ok (.iconst 0, 1) := by decide +kernel
theorem dX1_measure_33 : decode cX1_measure 33 = .ok (.iload_n 1, 1) := by decide +kernel
theorem dX1_measure_34 : decode cX1_measure 34 = .ok (.invokevirtual 55, 3) := by decide +kernel
theorem dX1_measure_37 : decode cX1_measure 37 = .ok (.iastore, 1) := by decide +kernel
theorem dX1_measure_38 : decode cX1_measure 38 = .ok (.iconst 1, 1) := by decide +kernel
theorem dX1_measure_39 : decode cX1_measure 39 = .ok (.istore_n 2, 1) := by decide +kernel
theorem dX1_measure_40 : decode cX1_measure 40 = .ok (.iload_n 2, 1) := by decide +kernel
theorem dX1_measure_41 : decode cX1_measure 41 = .ok (.bipush 8, 2) := by decide +kernel
theorem dX1_measure_43 : decode cX1_measure 43 = .ok (.if_icmp .gt 42, 3) := by decide +kernel
theorem dX1_measure_46 : decode cX1_measure 46 = .ok (.aload_n 0, 1) := by decide +kernel
theorem dX1_measure_47 : decode cX1_measure 47 = .ok (.getfield 24, 3) := by decide +kernel
theorem dX1_measure_50 : decode cX1_measure 50 = .ok (.iload_n 1, 1) := by decide +kernel
theorem dX1_measure_51 : decode cX1_measure 51 = .ok (.iconst (-1), 1) := by decide +kernel
theorem dX1_measure_52 : decode cX1_measure 52 = .ok (.ixor, 1) := by decide +kernel
theorem dX1_measure_53 : decode cX1_measure 53 = .ok (.iand, 1) := by decide +kernel
theorem dX1_measure_54 : decode cX1_measure 54 = .ok (.iload_n 2, 1) := by decide +kernel
theorem dX1_measure_55 : decode cX1_measure 55 = .ok (.invokestatic 51, 3) := by decide +kernel
theorem dX1_measure_58 : decode cX1_measure 58 = .ok (.iand, 1) := by decide +kernel
theorem dX1_measure_59 : decode cX1_measure 59 = .ok (.ifCond .eq 20, 3) := by decide +kernel
theorem dX1_measure_62 : decode cX1_measure 62 = .ok (.aload_n 0, 1) := by decide +kernel
theorem dX1_measure_63 : decode cX1_measure 63 = .ok (.getfield 21, 3) := by decide +kernel
theorem dX1_measure_66 : decode cX1_measure 66 = .ok (.iload_n 1, 1) := by decide +kernel
theorem dX1_measure_67 : decode cX1_measure 67 = .ok (.bipush 9, 2) := by decide +kernel
theorem dX1_measure_69 : decode cX1_measure 69 = .ok (.imul, 1) := by decide +kernel
theorem dX1_measure_70 : decode cX1_measure 70 = .ok (.iload_n 2, 1) := by decide +kernel
theorem dX1_measure_71 : decode cX1_measure 71 = .ok (.iadd, 1) := by decide +kernel
theorem dX1_measure_72 : decode cX1_measure 72 = .ok (.aload_n 0, 1) := by decide +kernel
theorem dX1_measure_73 : decode cX1_measure 73 = .ok (.iload_n 2, 1) := by decide +kernel
theorem dX1_measure_74 : decode cX1_measure 74 = .ok (.iload_n 1, 1) := by decide +kernel
theorem dX1_measure_75 : decode cX1_measure 75 = .ok (.invokevirtual 55, 3) := by decide +kernel
theorem dX1_measure_78 : decode cX1_measure 78 = .ok (.iastore, 1) := by decide +kernel
theorem dX1_measure_79 : decode cX1_measure 79 = .ok (.iinc 2 1, 3) := by decide +kernel
theorem dX1_measure_82 : decode cX1_measure 82 = .ok (.goto (-42), 3) := by decide +kernel
theorem dX1_measure_85 : decode cX1_measure 85 = .ok (.iinc 1 1, 3) := by decide +kernel
theorem dX1_measure_88 : decode cX1_measure 88 = .ok (.goto (-86), 3) := by decide +kernel
theorem dX1_measure_91 : decode cX1_measure 91 = .ok (.aload_n 0, 1) := by decide +kernel
theorem dX1_measure_92 : decode cX1_measure 92 = .ok (.iconst 1, 1) := by decide +kernel
theorem dX1_measure_93 : decode cX1_measure 93 = .ok (.putfield 28, 3) := by decide +kernel
theorem dX1_measure_96 : decode cX1_measure 96 = .ok (.return_, 1) := by decide +kernel
theorem dX1_wayFrom_0 : decode cX1_wayFrom 0 = .ok (.iload_n 2, 1) := by decide +kernel
theorem dX1_wayFrom_1 : decode cX1_wayFrom 1 = .ok (.ifCond .ne 13, 3) := by decide +kernel
theorem dX1_wayFrom_4 : decode cX1_wayFrom 4 = .ok (.aload_n 0, 1) := by decide +kernel
theorem dX1_wayFrom_5 : decode cX1_wayFrom 5 = .ok (.getfield 11, 3) := by decide +kernel
theorem dX1_wayFrom_8 : decode cX1_wayFrom 8 = .ok (.iload_n 1, 1) := by decide +kernel
theorem dX1_wayFrom_9 : decode cX1_wayFrom 9 = .ok (.bipush 9, 2) := by decide +kernel
theorem dX1_wayFrom_11 : decode cX1_wayFrom 11 = .ok (.imul, 1) := by decide +kernel
theorem dX1_wayFrom_12 : decode cX1_wayFrom 12 = .ok (.iaload, 1) := by decide +kernel
theorem dX1_wayFrom_13 : decode cX1_wayFrom 13 = .ok (.ireturn, 1) := by decide +kernel
theorem dX1_wayFrom_14 : decode cX1_wayFrom 14 = .ok (.ldc 59, 2) := by decide +kernel
theorem dX1_wayFrom_16 : decode cX1_wayFrom 16 = .ok (.istore_n 3, 1) := by decide +kernel
theorem dX1_wayFrom_17 : decode cX1_wayFrom 17 = .ok (.iconst 1, 1) := by decide +kernel
theorem dX1_wayFrom_18 : decode cX1_wayFrom 18 = .ok (.istore 4, 2) := by decide +kernel
theorem dX1_wayFrom_20 : decode cX1_wayFrom 20 = .ok (.iload 4, 2) := by decide +kernel
theorem dX1_wayFrom_22 : decode cX1_wayFrom 22 = .ok (.bipush 8, 2) := by decide +kernel
theorem dX1_wayFrom_24 : decode cX1_wayFrom 24 = .ok (.if_icmp .gt 32, 3) := by decide +kernel
theorem dX1_wayFrom_27 : decode cX1_wayFrom 27 = .ok (.iload_n 2, 1) := by decide +kernel
theorem dX1_wayFrom_28 : decode cX1_wayFrom 28 = .ok (.iload 4, 2) := by decide +kernel
theorem dX1_wayFrom_30 : decode cX1_wayFrom 30 = .ok (.invokestatic 51, 3) := by decide +kernel
theorem dX1_wayFrom_33 : decode cX1_wayFrom 33 = .ok (.iand, 1) := by decide +kernel
theorem dX1_wayFrom_34 : decode cX1_wayFrom 34 = .ok (.ifCond .eq 16, 3) := by decide +kernel
theorem dX1_wayFrom_37 : decode cX1_wayFrom 37 = .ok (.iload_n 3, 1) := by decide +kernel
theorem dX1_wayFrom_38 : decode cX1_wayFrom 38 = .ok (.aload_n 0, 1) := by decide +kernel
theorem dX1_wayFrom_39 : decode cX1_wayFrom 39 = .ok (.iload_n 1, 1) := by decide +kernel
theorem dX1_wayFrom_40 : decode cX1_wayFrom 40 = .ok (.iload 4, 2) := by decide +kernel
theorem dX1_wayFrom_42 : decode cX1_wayFrom 42 = .ok (.iload_n 2, 1) := by decide +kernel
theorem dX1_wayFrom_43 : decode cX1_wayFrom 43 = .ok (.invokevirtual 60, 3) := by decide +kernel
theorem dX1_wayFrom_46 : decode cX1_wayFrom 46 = .ok (.invokestatic 64, 3) := by decide +kernel
theorem dX1_wayFrom_49 : decode cX1_wayFrom 49 = .ok (.istore_n 3, 1) := by decide +kernel
theorem dX1_wayFrom_50 : decode cX1_wayFrom 50 = .ok (.iinc 4 1, 3) := by decide +kernel
theorem dX1_wayFrom_53 : decode cX1_wayFrom 53 = .ok (.goto (-33), 3) := by decide +kernel
theorem dX1_wayFrom_56 : decode cX1_wayFrom 56 = .ok (.iload_n 3, 1) := by decide +kernel
theorem dX1_wayFrom_57 : decode cX1_wayFrom 57 = .ok (.ireturn, 1) := by decide +kernel
theorem dX1_wayBy_0 : decode cX1_wayBy 0 = .ok (.iload_n 3, 1) := by decide +kernel
theorem dX1_wayBy_1 : decode cX1_wayBy 1 = .ok (.iload_n 2, 1) := by decide +kernel
theorem dX1_wayBy_2 : decode cX1_wayBy 2 = .ok (.invokestatic 51, 3) := by decide +kernel
theorem dX1_wayBy_5 : decode cX1_wayBy 5 = .ok (.iconst (-1), 1) := by decide +kernel
theorem dX1_wayBy_6 : decode cX1_wayBy 6 = .ok (.ixor, 1) := by decide +kernel
theorem dX1_wayBy_7 : decode cX1_wayBy 7 = .ok (.iand, 1) := by decide +kernel
theorem dX1_wayBy_8 : decode cX1_wayBy 8 = .ok (.istore 4, 2) := by decide +kernel
theorem dX1_wayBy_10 : decode cX1_wayBy 10 = .ok (.aload_n 0, 1) := by decide +kernel
theorem dX1_wayBy_11 : decode cX1_wayBy 11 = .ok (.getfield 11, 3) := by decide +kernel
theorem dX1_wayBy_14 : decode cX1_wayBy 14 = .ok (.iload_n 1, 1) := by decide +kernel
theorem dX1_wayBy_15 : decode cX1_wayBy 15 = .ok (.bipush 9, 2) := by decide +kernel
theorem dX1_wayBy_17 : decode cX1_wayBy 17 = .ok (.imul, 1) := by decide +kernel
theorem dX1_wayBy_18 : decode cX1_wayBy 18 = .ok (.iload_n 2, 1) := by decide +kernel
theorem dX1_wayBy_19 : decode cX1_wayBy 19 = .ok (.iadd, 1) := by decide +kernel
theorem dX1_wayBy_20 : decode cX1_wayBy 20 = .ok (.iaload, 1) := by decide +kernel
theorem dX1_wayBy_21 : decode cX1_wayBy 21 = .ok (.aload_n 0, 1) := by decide +kernel
theorem dX1_wayBy_22 : decode cX1_wayBy 22 = .ok (.getfield 15, 3) := by decide +kernel
theorem dX1_wayBy_25 : decode cX1_wayBy 25 = .ok (.iload_n 2, 1) := by decide +kernel
theorem dX1_wayBy_26 : decode cX1_wayBy 26 = .ok (.iaload, 1) := by decide +kernel
theorem dX1_wayBy_27 : decode cX1_wayBy 27 = .ok (.iadd, 1) := by decide +kernel
theorem dX1_wayBy_28 : decode cX1_wayBy 28 = .ok (.aload_n 0, 1) := by decide +kernel
theorem dX1_wayBy_29 : decode cX1_wayBy 29 = .ok (.getfield 21, 3) := by decide +kernel
theorem dX1_wayBy_32 : decode cX1_wayBy 32 = .ok (.iload 4, 2) := by decide +kernel
theorem dX1_wayBy_34 : decode cX1_wayBy 34 = .ok (.bipush 9, 2) := by decide +kernel
theorem dX1_wayBy_36 : decode cX1_wayBy 36 = .ok (.imul, 1) := by decide +kernel
theorem dX1_wayBy_37 : decode cX1_wayBy 37 = .ok (.iload_n 2, 1) := by decide +kernel
theorem dX1_wayBy_38 : decode cX1_wayBy 38 = .ok (.iadd, 1) := by decide +kernel
theorem dX1_wayBy_39 : decode cX1_wayBy 39 = .ok (.iaload, 1) := by decide +kernel
theorem dX1_wayBy_40 : decode cX1_wayBy 40 = .ok (.iadd, 1) := by decide +kernel
theorem dX1_wayBy_41 : decode cX1_wayBy 41 = .ok (.ireturn, 1) := by decide +kernel
theorem dX1_choose_0 : decode cX1_choose 0 = .ok (.aload_n 0, 1) := by decide +kernel
theorem dX1_choose_1 : decode cX1_choose 1 = .ok (.getfield 28, 3) := by decide +kernel
theorem dX1_choose_4 : decode cX1_choose 4 = .ok (.ifCond .ne 7, 3) := by decide +kernel
theorem dX1_choose_7 : decode cX1_choose 7 = .ok (.aload_n 0, 1) := by decide +kernel
theorem dX1_choose_8 : decode cX1_choose 8 = .ok (.invokevirtual 69, 3) := by decide +kernel
theorem dX1_choose_11 : decode cX1_choose 11 = .ok (.aload_n 0, 1) := by decide +kernel
theorem dX1_choose_12 : decode cX1_choose 12 = .ok (.getfield 32, 3) := by decide +kernel
theorem dX1_choose_15 : decode cX1_choose 15 = .ok (.iload_n 1, 1) := by decide +kernel
theorem dX1_choose_16 : decode cX1_choose 16 = .ok (.if_icmp .ne 4, 3) := by decide +kernel
theorem dX1_choose_19 : decode cX1_choose 19 = .ok (.return_, 1) := by decide +kernel
theorem dX1_choose_20 : decode cX1_choose 20 = .ok (.aload_n 0, 1) := by decide +kernel
theorem dX1_choose_21 : decode cX1_choose 21 = .ok (.iconst 0, 1) := by decide +kernel
theorem dX1_choose_22 : decode cX1_choose 22 = .ok (.iconst 0, 1) := by decide +kernel
theorem dX1_choose_23 : decode cX1_choose 23 = .ok (.iconst 0, 1) := by decide +kernel
theorem dX1_choose_24 : decode cX1_choose 24 = .ok (.lconst 0, 1) := by decide +kernel
theorem dX1_choose_25 : decode cX1_choose 25 = .ok (.invokevirtual 72, 3) := by decide +kernel
theorem dX1_choose_28 : decode cX1_choose 28 = .ok (.iconst 1, 1) := by decide +kernel
theorem dX1_choose_29 : decode cX1_choose 29 = .ok (.istore_n 2, 1) := by decide +kernel
theorem dX1_choose_30 : decode cX1_choose 30 = .ok (.iload_n 2, 1) := by decide +kernel
theorem dX1_choose_31 : decode cX1_choose 31 = .ok (.sipush 256, 3) := by decide +kernel
theorem dX1_choose_34 : decode cX1_choose 34 = .ok (.if_icmp .ge 38, 3) := by decide +kernel
theorem dX1_choose_37 : decode cX1_choose 37 = .ok (.iload_n 2, 1) := by decide +kernel
theorem dX1_choose_38 : decode cX1_choose 38 = .ok (.aload_n 0, 1) := by decide +kernel
theorem dX1_choose_39 : decode cX1_choose 39 = .ok (.getfield 24, 3) := by decide +kernel
theorem dX1_choose_42 : decode cX1_choose 42 = .ok (.iconst (-1), 1) := by decide +kernel
theorem dX1_choose_43 : decode cX1_choose 43 = .ok (.ixor, 1) := by decide +kernel
theorem dX1_choose_44 : decode cX1_choose 44 = .ok (.iand, 1) := by decide +kernel
theorem dX1_choose_45 : decode cX1_choose 45 = .ok (.ifCond .ne 21, 3) := by decide +kernel
theorem dX1_choose_48 : decode cX1_choose 48 = .ok (.aload_n 0, 1) := by decide +kernel
theorem dX1_choose_49 : decode cX1_choose 49 = .ok (.getfield 21, 3) := by decide +kernel
theorem dX1_choose_52 : decode cX1_choose 52 = .ok (.iload_n 2, 1) := by decide +kernel
theorem dX1_choose_53 : decode cX1_choose 53 = .ok (.bipush 9, 2) := by decide +kernel
theorem dX1_choose_55 : decode cX1_choose 55 = .ok (.imul, 1) := by decide +kernel
theorem dX1_choose_56 : decode cX1_choose 56 = .ok (.iaload, 1) := by decide +kernel
theorem dX1_choose_57 : decode cX1_choose 57 = .ok (.iload_n 1, 1) := by decide +kernel
theorem dX1_choose_58 : decode cX1_choose 58 = .ok (.if_icmp .gt 8, 3) := by decide +kernel
theorem dX1_choose_61 : decode cX1_choose 61 = .ok (.aload_n 0, 1) := by decide +kernel
theorem dX1_choose_62 : decode cX1_choose 62 = .ok (.iload_n 2, 1) := by decide +kernel
theorem dX1_choose_63 : decode cX1_choose 63 = .ok (.invokevirtual 76, 3) := by decide +kernel
theorem dX1_choose_66 : decode cX1_choose 66 = .ok (.iinc 2 1, 3) := by decide +kernel
theorem dX1_choose_69 : decode cX1_choose 69 = .ok (.goto (-39), 3) := by decide +kernel
theorem dX1_choose_72 : decode cX1_choose 72 = .ok (.aload_n 0, 1) := by decide +kernel
theorem dX1_choose_73 : decode cX1_choose 73 = .ok (.iload_n 1, 1) := by decide +kernel
theorem dX1_choose_74 : decode cX1_choose 74 = .ok (.putfield 32, 3) := by decide +kernel
theorem dX1_choose_77 : decode cX1_choose 77 = .ok (.return_, 1) := by decide +kernel
theorem dX1_weigh_0 : decode cX1_weigh 0 = .ok (.aload_n 0, 1) := by decide +kernel
theorem dX1_weigh_1 : decode cX1_weigh 1 = .ok (.iload_n 1, 1) := by decide +kernel
theorem dX1_weigh_2 : decode cX1_weigh 2 = .ok (.invokevirtual 80, 3) := by decide +kernel
theorem dX1_weigh_5 : decode cX1_weigh 5 = .ok (.istore_n 2, 1) := by decide +kernel
theorem dX1_weigh_6 : decode cX1_weigh 6 = .ok (.aload_n 0, 1) := by decide +kernel
theorem dX1_weigh_7 : decode cX1_weigh 7 = .ok (.getfield 21, 3) := by decide +kernel
theorem dX1_weigh_10 : decode cX1_weigh 10 = .ok (.iload_n 1, 1) := by decide +kernel
theorem dX1_weigh_11 : decode cX1_weigh 11 = .ok (.bipush 9, 2) := by decide +kernel
theorem dX1_weigh_13 : decode cX1_weigh 13 = .ok (.imul, 1) := by decide +kernel
theorem dX1_weigh_14 : decode cX1_weigh 14 = .ok (.iaload, 1) := by decide +kernel
theorem dX1_weigh_15 : decode cX1_weigh 15 = .ok (.istore_n 3, 1) := by decide +kernel
theorem dX1_weigh_16 : decode cX1_weigh 16 = .ok (.iload_n 2, 1) := by decide +kernel
theorem dX1_weigh_17 : decode cX1_weigh 17 = .ok (.aload_n 0, 1) := by decide +kernel
theorem dX1_weigh_18 : decode cX1_weigh 18 = .ok (.getfield 38, 3) := by decide +kernel
theorem dX1_weigh_21 : decode cX1_weigh 21 = .ok (.if_icmp .lt 19, 3) := by decide +kernel
theorem dX1_weigh_24 : decode cX1_weigh 24 = .ok (.iload_n 2, 1) := by decide +kernel
theorem dX1_weigh_25 : decode cX1_weigh 25 = .ok (.aload_n 0, 1) := by decide +kernel
theorem dX1_weigh_26 : decode cX1_weigh 26 = .ok (.getfield 38, 3) := by decide +kernel
theorem dX1_weigh_29 : decode cX1_weigh 29 = .ok (.if_icmp .ne 12, 3) := by decide +kernel
theorem dX1_weigh_32 : decode cX1_weigh 32 = .ok (.iload_n 3, 1) := by decide +kernel
theorem dX1_weigh_33 : decode cX1_weigh 33 = .ok (.aload_n 0, 1) := by decide +kernel
theorem dX1_weigh_34 : decode cX1_weigh 34 = .ok (.getfield 41, 3) := by decide +kernel
theorem dX1_weigh_37 : decode cX1_weigh 37 = .ok (.if_icmp .le 4, 3) := by decide +kernel
theorem dX1_weigh_40 : decode cX1_weigh 40 = .ok (.return_, 1) := by decide +kernel
theorem dX1_weigh_41 : decode cX1_weigh 41 = .ok (.aload_n 0, 1) := by decide +kernel
theorem dX1_weigh_42 : decode cX1_weigh 42 = .ok (.iload_n 1, 1) := by decide +kernel
theorem dX1_weigh_43 : decode cX1_weigh 43 = .ok (.invokevirtual 83, 3) := by decide +kernel
theorem dX1_weigh_46 : decode cX1_weigh 46 = .ok (.lstore 4, 2) := by decide +kernel
theorem dX1_weigh_48 : decode cX1_weigh 48 = .ok (.iload_n 2, 1) := by decide +kernel
theorem dX1_weigh_49 : decode cX1_weigh 49 = .ok (.aload_n 0, 1) := by decide +kernel
theorem dX1_weigh_50 : decode cX1_weigh 50 = .ok (.getfield 38, 3) := by decide +kernel
theorem dX1_weigh_53 : decode cX1_weigh 53 = .ok (.if_icmp .gt 21, 3) := by decide +kernel
theorem dX1_weigh_56 : decode cX1_weigh 56 = .ok (.iload_n 3, 1) := by decide +kernel
theorem dX1_weigh_57 : decode cX1_weigh 57 = .ok (.aload_n 0, 1) := by decide +kernel
theorem dX1_weigh_58 : decode cX1_weigh 58 = .ok (.getfield 41, 3) := by decide +kernel
theorem dX1_weigh_61 : decode cX1_weigh 61 = .ok (.if_icmp .lt 13, 3) := by decide +kernel
theorem dX1_weigh_64 : decode cX1_weigh 64 = .ok (.lload 4, 2) := by decide +kernel
theorem dX1_weigh_66 : decode cX1_weigh 66 = .ok (.aload_n 0, 1) := by decide +kernel
theorem dX1_weigh_67 : decode cX1_weigh 67 = .ok (.getfield 44, 3) := by decide +kernel
theorem dX1_weigh_70 : decode cX1_weigh 70 = .ok (.lcmp, 1) := by decide +kernel
theorem dX1_weigh_71 : decode cX1_weigh 71 = .ok (.ifCond .ge 12, 3) := by decide +kernel
theorem dX1_weigh_74 : decode cX1_weigh 74 = .ok (.aload_n 0, 1) := by decide +kernel
theorem dX1_weigh_75 : decode cX1_weigh 75 = .ok (.iload_n 1, 1) := by decide +kernel
theorem dX1_weigh_76 : decode cX1_weigh 76 = .ok (.iload_n 2, 1) := by decide +kernel
theorem dX1_weigh_77 : decode cX1_weigh 77 = .ok (.iload_n 3, 1) := by decide +kernel
theorem dX1_weigh_78 : decode cX1_weigh 78 = .ok (.lload 4, 2) := by decide +kernel
theorem dX1_weigh_80 : decode cX1_weigh 80 = .ok (.invokevirtual 72, 3) := by decide +kernel
theorem dX1_weigh_83 : decode cX1_weigh 83 = .ok (.return_, 1) := by decide +kernel
theorem dX1_take_0 : decode cX1_take 0 = .ok (.aload_n 0, 1) := by decide +kernel
theorem dX1_take_1 : decode cX1_take 1 = .ok (.iload_n 1, 1) := by decide +kernel
theorem dX1_take_2 : decode cX1_take 2 = .ok (.putfield 35, 3) := by decide +kernel
theorem dX1_take_5 : decode cX1_take 5 = .ok (.aload_n 0, 1) := by decide +kernel
theorem dX1_take_6 : decode cX1_take 6 = .ok (.iload_n 2, 1) := by decide +kernel
theorem dX1_take_7 : decode cX1_take 7 = .ok (.putfield 38, 3) := by decide +kernel
theorem dX1_take_10 : decode cX1_take 10 = .ok (.aload_n 0, 1) := by decide +kernel
theorem dX1_take_11 : decode cX1_take 11 = .ok (.iload_n 3, 1) := by decide +kernel
theorem dX1_take_12 : decode cX1_take 12 = .ok (.putfield 41, 3) := by decide +kernel
theorem dX1_take_15 : decode cX1_take 15 = .ok (.aload_n 0, 1) := by decide +kernel
theorem dX1_take_16 : decode cX1_take 16 = .ok (.lload 4, 2) := by decide +kernel
theorem dX1_take_18 : decode cX1_take 18 = .ok (.putfield 44, 3) := by decide +kernel
theorem dX1_take_21 : decode cX1_take 21 = .ok (.return_, 1) := by decide +kernel
theorem dX1_worthOf_0 : decode cX1_worthOf 0 = .ok (.iconst 0, 1) := by decide +kernel
theorem dX1_worthOf_1 : decode cX1_worthOf 1 = .ok (.istore_n 2, 1) := by decide +kernel
theorem dX1_worthOf_2 : decode cX1_worthOf 2 = .ok (.iconst 1, 1) := by decide +kernel
theorem dX1_worthOf_3 : decode cX1_worthOf 3 = .ok (.istore_n 3, 1) := by decide +kernel
theorem dX1_worthOf_4 : decode cX1_worthOf 4 = .ok (.iload_n 3, 1) := by decide +kernel
theorem dX1_worthOf_5 : decode cX1_worthOf 5 = .ok (.bipush 8, 2) := by decide +kernel
theorem dX1_worthOf_7 : decode cX1_worthOf 7 = .ok (.if_icmp .gt 27, 3) := by decide +kernel
theorem dX1_worthOf_10 : decode cX1_worthOf 10 = .ok (.iload_n 1, 1) := by decide +kernel
theorem dX1_worthOf_11 : decode cX1_worthOf 11 = .ok (.iload_n 3, 1) := by decide +kernel
theorem dX1_worthOf_12 : decode cX1_worthOf 12 = .ok (.invokestatic 51, 3) := by decide +kernel
theorem dX1_worthOf_15 : decode cX1_worthOf 15 = .ok (.iand, 1) := by decide +kernel
theorem dX1_worthOf_16 : decode cX1_worthOf 16 = .ok (.ifCond .eq 12, 3) := by decide +kernel
theorem dX1_worthOf_19 : decode cX1_worthOf 19 = .ok (.iload_n 2, 1) := by decide +kernel
theorem dX1_worthOf_20 : decode cX1_worthOf 20 = .ok (.aload_n 0, 1) := by decide +kernel
theorem dX1_worthOf_21 : decode cX1_worthOf 21 = .ok (.getfield 18, 3) := by decide +kernel
theorem dX1_worthOf_24 : decode cX1_worthOf 24 = .ok (.iload_n 3, 1) := by decide +kernel
theorem dX1_worthOf_25 : decode cX1_worthOf 25 = .ok (.iaload, 1) := by decide +kernel
theorem dX1_worthOf_26 : decode cX1_worthOf 26 = .ok (.iadd, 1) := by decide +kernel
theorem dX1_worthOf_27 : decode cX1_worthOf 27 = .ok (.istore_n 2, 1) := by decide +kernel
theorem dX1_worthOf_28 : decode cX1_worthOf 28 = .ok (.iinc 3 1, 3) := by decide +kernel
theorem dX1_worthOf_31 : decode cX1_worthOf 31 = .ok (.goto (-27), 3) := by decide +kernel
theorem dX1_worthOf_34 : decode cX1_worthOf 34 = .ok (.iload_n 2, 1) := by decide +kernel
theorem dX1_worthOf_35 : decode cX1_worthOf 35 = .ok (.ireturn, 1) := by decide +kernel
theorem dX1_orderOf_0 : decode cX1_orderOf 0 = .ok (.lconst 0, 1) := by decide +kernel
theorem dX1_orderOf_1 : decode cX1_orderOf 1 = .ok (.lstore_n 2, 1) := by decide +kernel
theorem dX1_orderOf_2 : decode cX1_orderOf 2 = .ok (.iload_n 1, 1) := by decide +kernel
theorem dX1_orderOf_3 : decode cX1_orderOf 3 = .ok (.istore 4, 2) := by decide +kernel
theorem dX1_orderOf_5 : decode cX1_orderOf 5 = .ok (.iconst 0, 1) := by decide +kernel
theorem dX1_orderOf_6 : decode cX1_orderOf 6 = .ok (.istore 5, 2) := by decide +kernel
theorem dX1_orderOf_8 : decode cX1_orderOf 8 = .ok (.iconst 0, 1) := by decide +kernel
theorem dX1_orderOf_9 : decode cX1_orderOf 9 = .ok (.istore 6, 2) := by decide +kernel
theorem dX1_orderOf_11 : decode cX1_orderOf 11 = .ok (.iload 6, 2) := by decide +kernel
theorem dX1_orderOf_13 : decode cX1_orderOf 13 = .ok (.bipush 8, 2) := by decide +kernel
theorem dX1_orderOf_15 : decode cX1_orderOf 15 = .ok (.if_icmp .ge 48, 3) := by decide +kernel
theorem dX1_orderOf_18 : decode cX1_orderOf 18 = .ok (.aload_n 0, 1) := by decide +kernel
theorem dX1_orderOf_19 : decode cX1_orderOf 19 = .ok (.iload 5, 2) := by decide +kernel
theorem dX1_orderOf_21 : decode cX1_orderOf 21 = .ok (.iload 4, 2) := by decide +kernel
theorem dX1_orderOf_23 : decode cX1_orderOf 23 = .ok (.invokevirtual 87, 3) := by decide +kernel
theorem dX1_orderOf_26 : decode cX1_orderOf 26 = .ok (.istore 7, 2) := by decide +kernel
theorem dX1_orderOf_28 : decode cX1_orderOf 28 = .ok (.lload_n 2, 1) := by decide +kernel
theorem dX1_orderOf_29 : decode cX1_orderOf 29 = .ok (.iconst 4, 1) := by decide +kernel
theorem dX1_orderOf_30 : decode cX1_orderOf 30 = .ok (.lshl, 1) := by decide +kernel
theorem dX1_orderOf_31 : decode cX1_orderOf 31 = .ok (.iload 7, 2) := by decide +kernel
theorem dX1_orderOf_33 : decode cX1_orderOf 33 = .ok (.i2l, 1) := by decide +kernel
theorem dX1_orderOf_34 : decode cX1_orderOf 34 = .ok (.lor, 1) := by decide +kernel
theorem dX1_orderOf_35 : decode cX1_orderOf 35 = .ok (.lstore_n 2, 1) := by decide +kernel
theorem dX1_orderOf_36 : decode cX1_orderOf 36 = .ok (.iload 7, 2) := by decide +kernel
theorem dX1_orderOf_38 : decode cX1_orderOf 38 = .ok (.ifCond .eq 19, 3) := by decide +kernel
theorem dX1_orderOf_41 : decode cX1_orderOf 41 = .ok (.iload 4, 2) := by decide +kernel
theorem dX1_orderOf_43 : decode cX1_orderOf 43 = .ok (.iload 7, 2) := by decide +kernel
theorem dX1_orderOf_45 : decode cX1_orderOf 45 = .ok (.invokestatic 51, 3) := by decide +kernel
theorem dX1_orderOf_48 : decode cX1_orderOf 48 = .ok (.iconst (-1), 1) := by decide +kernel
theorem dX1_orderOf_49 : decode cX1_orderOf 49 = .ok (.ixor, 1) := by decide +kernel
theorem dX1_orderOf_50 : decode cX1_orderOf 50 = .ok (.iand, 1) := by decide +kernel
theorem dX1_orderOf_51 : decode cX1_orderOf 51 = .ok (.istore 4, 2) := by decide +kernel
theorem dX1_orderOf_53 : decode cX1_orderOf 53 = .ok (.iload 7, 2) := by decide +kernel
theorem dX1_orderOf_55 : decode cX1_orderOf 55 = .ok (.istore 5, 2) := by decide +kernel
theorem dX1_orderOf_57 : decode cX1_orderOf 57 = .ok (.iinc 6 1, 3) := by decide +kernel
theorem dX1_orderOf_60 : decode cX1_orderOf 60 = .ok (.goto (-49), 3) := by decide +kernel
theorem dX1_orderOf_63 : decode cX1_orderOf 63 = .ok (.lload_n 2, 1) := by decide +kernel
theorem dX1_orderOf_64 : decode cX1_orderOf 64 = .ok (.lreturn, 1) := by decide +kernel
theorem dX1_nextShop_0 : decode cX1_nextShop 0 = .ok (.iconst 1, 1) := by decide +kernel
theorem dX1_nextShop_1 : decode cX1_nextShop 1 = .ok (.istore_n 3, 1) := by decide +kernel
theorem dX1_nextShop_2 : decode cX1_nextShop 2 = .ok (.iload_n 3, 1) := by decide +kernel
theorem dX1_nextShop_3 : decode cX1_nextShop 3 = .ok (.bipush 8, 2) := by decide +kernel
theorem dX1_nextShop_5 : decode cX1_nextShop 5 = .ok (.if_icmp .gt 41, 3) := by decide +kernel
theorem dX1_nextShop_8 : decode cX1_nextShop 8 = .ok (.iload_n 2, 1) := by decide +kernel
theorem dX1_nextShop_9 : decode cX1_nextShop 9 = .ok (.iload_n 3, 1) := by decide +kernel
theorem dX1_nextShop_10 : decode cX1_nextShop 10 = .ok (.invokestatic 51, 3) := by decide +kernel
theorem dX1_nextShop_13 : decode cX1_nextShop 13 = .ok (.iand, 1) := by decide +kernel
theorem dX1_nextShop_14 : decode cX1_nextShop 14 = .ok (.ifCond .eq 26, 3) := by decide +kernel
theorem dX1_nextShop_17 : decode cX1_nextShop 17 = .ok (.aload_n 0, 1) := by decide +kernel
theorem dX1_nextShop_18 : decode cX1_nextShop 18 = .ok (.iload_n 1, 1) := by decide +kernel
theorem dX1_nextShop_19 : decode cX1_nextShop 19 = .ok (.iload_n 3, 1) := by decide +kernel
theorem dX1_nextShop_20 : decode cX1_nextShop 20 = .ok (.iload_n 2, 1) := by decide +kernel
theorem dX1_nextShop_21 : decode cX1_nextShop 21 = .ok (.invokevirtual 60, 3) := by decide +kernel
theorem dX1_nextShop_24 : decode cX1_nextShop 24 = .ok (.aload_n 0, 1) := by decide +kernel
theorem dX1_nextShop_25 : decode cX1_nextShop 25 = .ok (.getfield 21, 3) := by decide +kernel
theorem dX1_nextShop_28 : decode cX1_nextShop 28 = .ok (.iload_n 2, 1) := by decide +kernel
theorem dX1_nextShop_29 : decode cX1_nextShop 29 = .ok (.bipush 9, 2) := by decide +kernel
theorem dX1_nextShop_31 : decode cX1_nextShop 31 = .ok (.imul, 1) := by decide +kernel
theorem dX1_nextShop_32 : decode cX1_nextShop 32 = .ok (.iload_n 1, 1) := by decide +kernel
theorem dX1_nextShop_33 : decode cX1_nextShop 33 = .ok (.iadd, 1) := by decide +kernel
theorem dX1_nextShop_34 : decode cX1_nextShop 34 = .ok (.iaload, 1) := by decide +kernel
theorem dX1_nextShop_35 : decode cX1_nextShop 35 = .ok (.if_icmp .ne 5, 3) := by decide +kernel
theorem dX1_nextShop_38 : decode cX1_nextShop 38 = .ok (.iload_n 3, 1) := by decide +kernel
theorem dX1_nextShop_39 : decode cX1_nextShop 39 = .ok (.ireturn, 1) := by decide +kernel
theorem dX1_nextShop_40 : decode cX1_nextShop 40 = .ok (.iinc 3 1, 3) := by decide +kernel
theorem dX1_nextShop_43 : decode cX1_nextShop 43 = .ok (.goto (-41), 3) := by decide +kernel
theorem dX1_nextShop_46 : decode cX1_nextShop 46 = .ok (.iconst 0, 1) := by decide +kernel
theorem dX1_nextShop_47 : decode cX1_nextShop 47 = .ok (.ireturn, 1) := by decide +kernel
theorem dX1_chosenShop_0 : decode cX1_chosenShop 0 = .ok (.aload_n 0, 1) := by decide +kernel
theorem dX1_chosenShop_1 : decode cX1_chosenShop 1 = .ok (.getfield 44, 3) := by decide +kernel
theorem dX1_chosenShop_4 : decode cX1_chosenShop 4 = .ok (.iconst 4, 1) := by decide +kernel
theorem dX1_chosenShop_5 : decode cX1_chosenShop 5 = .ok (.bipush 7, 2) := by decide +kernel
theorem dX1_chosenShop_7 : decode cX1_chosenShop 7 = .ok (.iload_n 1, 1) := by decide +kernel
theorem dX1_chosenShop_8 : decode cX1_chosenShop 8 = .ok (.isub, 1) := by decide +kernel
theorem dX1_chosenShop_9 : decode cX1_chosenShop 9 = .ok (.imul, 1) := by decide +kernel
theorem dX1_chosenShop_10 : decode cX1_chosenShop 10 = .ok (.lshr, 1) := by decide +kernel
theorem dX1_chosenShop_11 : decode cX1_chosenShop 11 = .ok (.l2i, 1) := by decide +kernel
theorem dX1_chosenShop_12 : decode cX1_chosenShop 12 = .ok (.bipush 15, 2) := by decide +kernel
theorem dX1_chosenShop_14 : decode cX1_chosenShop 14 = .ok (.iand, 1) := by decide +kernel
theorem dX1_chosenShop_15 : decode cX1_chosenShop 15 = .ok (.istore_n 2, 1) := by decide +kernel
theorem dX1_chosenShop_16 : decode cX1_chosenShop 16 = .ok (.iload_n 2, 1) := by decide +kernel
theorem dX1_chosenShop_17 : decode cX1_chosenShop 17 = .ok (.ifCond .ne 7, 3) := by decide +kernel
theorem dX1_chosenShop_20 : decode cX1_chosenShop 20 = .ok (.iconst (-1), 1) := by decide +kernel
theorem dX1_chosenShop_21 : decode cX1_chosenShop 21 = .ok (.goto 4, 3) := by decide +kernel
theorem dX1_chosenShop_24 : decode cX1_chosenShop 24 = .ok (.iload_n 2, 1) := by decide +kernel
theorem dX1_chosenShop_25 : decode cX1_chosenShop 25 = .ok (.ireturn, 1) := by decide +kernel
theorem dX2_init_0 : decode cX2_init 0 = .ok (.aload_n 0, 1) := by decide +kernel
theorem dX2_init_1 : decode cX2_init 1 = .ok (.invokespecial 3, 3) := by decide +kernel
theorem dX2_init_4 : decode cX2_init 4 = .ok (.aload_n 0, 1) := by decide +kernel
theorem dX2_init_5 : decode cX2_init 5 = .ok (.iconst (-1), 1) := by decide +kernel
theorem dX2_init_6 : decode cX2_init 6 = .ok (.putfield 9, 3) := by decide +kernel
theorem dX2_init_9 : decode cX2_init 9 = .ok (.aload_n 0, 1) := by decide +kernel
theorem dX2_init_10 : decode cX2_init 10 = .ok (.iconst 0, 1) := by decide +kernel
theorem dX2_init_11 : decode cX2_init 11 = .ok (.putfield 15, 3) := by decide +kernel
theorem dX2_init_14 : decode cX2_init 14 = .ok (.aload_n 0, 1) := by decide +kernel
theorem dX2_init_15 : decode cX2_init 15 = .ok (.iconst (-1), 1) := by decide +kernel
theorem dX2_init_16 : decode cX2_init 16 = .ok (.putfield 18, 3) := by decide +kernel
theorem dX2_init_19 : decode cX2_init 19 = .ok (.aload_n 0, 1) := by decide +kernel
theorem dX2_init_20 : decode cX2_init 20 = .ok (.iconst (-1), 1) := by decide +kernel
theorem dX2_init_21 : decode cX2_init 21 = .ok (.putfield 21, 3) := by decide +kernel
theorem dX2_init_24 : decode cX2_init 24 = .ok (.aload_n 0, 1) := by decide +kernel
theorem dX2_init_25 : decode cX2_init 25 = .ok (.iconst (-1), 1) := by decide +kernel
theorem dX2_init_26 : decode cX2_init 26 = .ok (.putfield 24, 3) := by decide +kernel
theorem dX2_init_29 : decode cX2_init 29 = .ok (.aload_n 0, 1) := by decide +kernel
theorem dX2_init_30 : decode cX2_init 30 = .ok (.iconst (-1), 1) := by decide +kernel
theorem dX2_init_31 : decode cX2_init 31 = .ok (.putfield 27, 3) := by decide +kernel
theorem dX2_init_34 : decode cX2_init 34 = .ok (.aload_n 0, 1) := by decide +kernel
theorem dX2_init_35 : decode cX2_init 35 = .ok (.iconst (-1), 1) := by decide +kernel
theorem dX2_init_36 : decode cX2_init 36 = .ok (.putfield 30, 3) := by decide +kernel
theorem dX2_init_39 : decode cX2_init 39 = .ok (.aload_n 0, 1) := by decide +kernel
theorem dX2_init_40 : decode cX2_init 40 = .ok (.iconst (-1), 1) := by decide +kernel
theorem dX2_init_41 : decode cX2_init 41 = .ok (.putfield 33, 3) := by decide +kernel
theorem dX2_init_44 : decode cX2_init 44 = .ok (.aload_n 0, 1) := by decide +kernel
theorem dX2_init_45 : decode cX2_init 45 = .ok (.iconst 0, 1) := by decide +kernel
theorem dX2_init_46 : decode cX2_init 46 = .ok (.putfield 36, 3) := by decide +kernel
theorem dX2_init_49 : decode cX2_init 49 = .ok (.aload_n 0, 1) := by decide +kernel
theorem dX2_init_50 : decode cX2_init 50 = .ok (.iconst (-1), 1) := by decide +kernel
theorem dX2_init_51 : decode cX2_init 51 = .ok (.putfield 39, 3) := by decide +kernel
theorem dX2_init_54 : decode cX2_init 54 = .ok (.aload_n 0, 1) := by decide +kernel
theorem dX2_init_55 : decode cX2_init 55 = .ok (.iconst 0, 1) := by decide +kernel
theorem dX2_init_56 : decode cX2_init 56 = .ok (.putfield 42, 3) := by decide +kernel
theorem dX2_init_59 : decode cX2_init 59 = .ok (.aload_n 0, 1) := by decide +kernel
theorem dX2_init_60 : decode cX2_init 60 = .ok (.bipush 12, 2) := by decide +kernel
theorem dX2_init_62 : decode cX2_init 62 = .ok (.newarray .int, 2) := by decide +kernel
theorem dX2_init_64 : decode cX2_init 64 = .ok (.putfield 45, 3) := by decide +kernel
theorem dX2_init_67 : decode cX2_init 67 = .ok (.return_, 1) := by decide +kernel
theorem dX2_give_0 : decode cX2_give 0 = .ok (.aload_n 0, 1) := by decide +kernel
theorem dX2_give_1 : decode cX2_give 1 = .ok (.iload_n 1, 1) := by decide +kernel
theorem dX2_give_2 : decode cX2_give 2 = .ok (.putfield 18, 3) := by decide +kernel
theorem dX2_give_5 : decode cX2_give 5 = .ok (.aload_n 0, 1) := by decide +kernel
theorem dX2_give_6 : decode cX2_give 6 = .ok (.iload_n 2, 1) := by decide +kernel
theorem dX2_give_7 : decode cX2_give 7 = .ok (.putfield 9, 3) := by decide +kernel
theorem dX2_give_10 : decode cX2_give 10 = .ok (.aload_n 0, 1) := by decide +kernel
theorem dX2_give_11 : decode cX2_give 11 = .ok (.iload_n 3, 1) := by decide +kernel
theorem dX2_give_12 : decode cX2_give 12 = .ok (.putfield 15, 3) := by decide +kernel
theorem dX2_give_15 : decode cX2_give 15 = .ok (.return_, 1) := by decide +kernel
theorem dX2_board_0 : decode cX2_board 0 = .ok (.aload_n 0, 1) := by decide +kernel
theorem dX2_board_1 : decode cX2_board 1 = .ok (.iconst (-1), 1) := by decide +kernel
theorem dX2_board_2 : decode cX2_board 2 = .ok (.putfield 18, 3) := by decide +kernel
theorem dX2_board_5 : decode cX2_board 5 = .ok (.aload_n 0, 1) := by decide +kernel
theorem dX2_board_6 : decode cX2_board 6 = .ok (.iload_n 1, 1) := by decide +kernel
theorem dX2_board_7 : decode cX2_board 7 = .ok (.putfield 21, 3) := by decide +kernel
theorem dX2_board_10 : decode cX2_board 10 = .ok (.aload_n 0, 1) := by decide +kernel
theorem dX2_board_11 : decode cX2_board 11 = .ok (.iload_n 2, 1) := by decide +kernel
theorem dX2_board_12 : decode cX2_board 12 = .ok (.putfield 24, 3) := by decide +kernel
theorem dX2_board_15 : decode cX2_board 15 = .ok (.aload_n 0, 1) := by decide +kernel
theorem dX2_board_16 : decode cX2_board 16 = .ok (.iload_n 3, 1) := by decide +kernel
theorem dX2_board_17 : decode cX2_board 17 = .ok (.putfield 27, 3) := by decide +kernel
theorem dX2_board_20 : decode cX2_board 20 = .ok (.aload_n 0, 1) := by decide +kernel
theorem dX2_board_21 : decode cX2_board 21 = .ok (.iload 4, 2) := by decide +kernel
theorem dX2_board_23 : decode cX2_board 23 = .ok (.putfield 30, 3) := by decide +kernel
theorem dX2_board_26 : decode cX2_board 26 = .ok (.aload_n 0, 1) := by decide +kernel
theorem dX2_board_27 : decode cX2_board 27 = .ok (.dup, 1) := by decide +kernel
theorem dX2_board_28 : decode cX2_board 28 = .ok (.getfield 36, 3) := by decide +kernel
theorem dX2_board_31 : decode cX2_board 31 = .ok (.iconst 1, 1) := by decide +kernel
theorem dX2_board_32 : decode cX2_board 32 = .ok (.iadd, 1) := by decide +kernel
theorem dX2_board_33 : decode cX2_board 33 = .ok (.putfield 36, 3) := by decide +kernel
theorem dX2_board_36 : decode cX2_board 36 = .ok (.return_, 1) := by decide +kernel
theorem dX2_leave_0 : decode cX2_leave 0 = .ok (.aload_n 0, 1) := by decide +kernel
theorem dX2_leave_1 : decode cX2_leave 1 = .ok (.aload_n 0, 1) := by decide +kernel
theorem dX2_leave_2 : decode cX2_leave 2 = .ok (.getfield 30, 3) := by decide +kernel
theorem dX2_leave_5 : decode cX2_leave 5 = .ok (.putfield 18, 3) := by decide +kernel
theorem dX2_leave_8 : decode cX2_leave 8 = .ok (.aload_n 0, 1) := by decide +kernel
theorem dX2_leave_9 : decode cX2_leave 9 = .ok (.getfield 18, 3) := by decide +kernel
theorem dX2_leave_12 : decode cX2_leave 12 = .ok (.aload_n 0, 1) := by decide +kernel
theorem dX2_leave_13 : decode cX2_leave 13 = .ok (.getfield 9, 3) := by decide +kernel
theorem dX2_leave_16 : decode cX2_leave 16 = .ok (.if_icmp .ne 8, 3) := by decide +kernel
theorem dX2_leave_19 : decode cX2_leave 19 = .ok (.aload_n 0, 1) := by decide +kernel
theorem dX2_leave_20 : decode cX2_leave 20 = .ok (.iload_n 1, 1) := by decide +kernel
theorem dX2_leave_21 : decode cX2_leave 21 = .ok (.putfield 33, 3) := by decide +kernel
theorem dX2_leave_24 : decode cX2_leave 24 = .ok (.aload_n 0, 1) := by decide +kernel
theorem dX2_leave_25 : decode cX2_leave 25 = .ok (.iconst (-1), 1) := by decide +kernel
theorem dX2_leave_26 : decode cX2_leave 26 = .ok (.putfield 21, 3) := by decide +kernel
theorem dX2_leave_29 : decode cX2_leave 29 = .ok (.aload_n 0, 1) := by decide +kernel
theorem dX2_leave_30 : decode cX2_leave 30 = .ok (.iconst (-1), 1) := by decide +kernel
theorem dX2_leave_31 : decode cX2_leave 31 = .ok (.putfield 24, 3) := by decide +kernel
theorem dX2_leave_34 : decode cX2_leave 34 = .ok (.aload_n 0, 1) := by decide +kernel
theorem dX2_leave_35 : decode cX2_leave 35 = .ok (.iconst (-1), 1) := by decide +kernel
theorem dX2_leave_36 : decode cX2_leave 36 = .ok (.putfield 27, 3) := by decide +kernel
theorem dX2_leave_39 : decode cX2_leave 39 = .ok (.aload_n 0, 1) := by decide +kernel
theorem dX2_leave_40 : decode cX2_leave 40 = .ok (.iconst (-1), 1) := by decide +kernel
theorem dX2_leave_41 : decode cX2_leave 41 = .ok (.putfield 30, 3) := by decide +kernel
theorem dX2_leave_44 : decode cX2_leave 44 = .ok (.return_, 1) := by decide +kernel
theorem dX3_init_0 : decode cX3_init 0 = .ok (.aload_n 0, 1) := by decide +kernel
theorem dX3_init_1 : decode cX3_init 1 = .ok (.invokespecial 3, 3) := by decide +kernel
theorem dX3_init_4 : decode cX3_init 4 = .ok (.aload_n 0, 1) := by decide +kernel
theorem dX3_init_5 : decode cX3_init 5 = .ok (.bipush 12, 2) := by decide +kernel
theorem dX3_init_7 : decode cX3_init 7 = .ok (.anewarray 9, 3) := by decide +kernel
theorem dX3_init_10 : decode cX3_init 10 = .ok (.putfield 11, 3) := by decide +kernel
theorem dX3_init_13 : decode cX3_init 13 = .ok (.aload_n 0, 1) := by decide +kernel
theorem dX3_init_14 : decode cX3_init 14 = .ok (.iconst 0, 1) := by decide +kernel
theorem dX3_init_15 : decode cX3_init 15 = .ok (.putfield 17, 3) := by decide +kernel
theorem dX3_init_18 : decode cX3_init 18 = .ok (.aload_n 0, 1) := by decide +kernel
theorem dX3_init_19 : decode cX3_init 19 = .ok (.iconst 0, 1) := by decide +kernel
theorem dX3_init_20 : decode cX3_init 20 = .ok (.putfield 21, 3) := by decide +kernel
theorem dX3_init_23 : decode cX3_init 23 = .ok (.aload_n 0, 1) := by decide +kernel
theorem dX3_init_24 : decode cX3_init 24 = .ok (.bipush 72, 2) := by decide +kernel
theorem dX3_init_26 : decode cX3_init 26 = .ok (.newarray .int, 2) := by decide +kernel
theorem dX3_init_28 : decode cX3_init 28 = .ok (.putfield 24, 3) := by decide +kernel
theorem dX3_init_31 : decode cX3_init 31 = .ok (.aload_n 0, 1) := by decide +kernel
theorem dX3_init_32 : decode cX3_init 32 = .ok (.bipush 25, 2) := by decide +kernel
theorem dX3_init_34 : decode cX3_init 34 = .ok (.newarray .int, 2) := by decide +kernel
theorem dX3_init_36 : decode cX3_init 36 = .ok (.putfield 28, 3) := by decide +kernel
theorem dX3_init_39 : decode cX3_init 39 = .ok (.aload_n 0, 1) := by decide +kernel
theorem dX3_init_40 : decode cX3_init 40 = .ok (.bipush 12, 2) := by decide +kernel
theorem dX3_init_42 : decode cX3_init 42 = .ok (.newarray .int, 2) := by decide +kernel
theorem dX3_init_44 : decode cX3_init 44 = .ok (.putfield 31, 3) := by decide +kernel
theorem dX3_init_47 : decode cX3_init 47 = .ok (.aload_n 0, 1) := by decide +kernel
theorem dX3_init_48 : decode cX3_init 48 = .ok (.bipush 12, 2) := by decide +kernel
theorem dX3_init_50 : decode cX3_init 50 = .ok (.newarray .int, 2) := by decide +kernel
theorem dX3_init_52 : decode cX3_init 52 = .ok (.putfield 34, 3) := by decide +kernel
theorem dX3_init_55 : decode cX3_init 55 = .ok (.aload_n 0, 1) := by decide +kernel
theorem dX3_init_56 : decode cX3_init 56 = .ok (.bipush 12, 2) := by decide +kernel
theorem dX3_init_58 : decode cX3_init 58 = .ok (.newarray .int, 2) := by decide +kernel
theorem dX3_init_60 : decode cX3_init 60 = .ok (.putfield 37, 3) := by decide +kernel
theorem dX3_init_63 : decode cX3_init 63 = .ok (.aload_n 0, 1) := by decide +kernel
theorem dX3_init_64 : decode cX3_init 64 = .ok (.iconst 0, 1) := by decide +kernel
theorem dX3_init_65 : decode cX3_init 65 = .ok (.putfield 40, 3) := by decide +kernel
theorem dX3_init_68 : decode cX3_init 68 = .ok (.iconst 0, 1) := by decide +kernel
theorem dX3_init_69 : decode cX3_init 69 = .ok (.istore_n 1, 1) := by decide +kernel
theorem dX3_init_70 : decode cX3_init 70 = .ok (.iload_n 1, 1) := by decide +kernel
theorem dX3_init_71 : decode cX3_init 71 = .ok (.bipush 12, 2) := by decide +kernel
theorem dX3_init_73 : decode cX3_init 73 = .ok (.if_icmp .ge 22, 3) := by decide +kernel
theorem dX3_init_76 : decode cX3_init 76 = .ok (.aload_n 0, 1) := by decide +kernel
theorem dX3_init_77 : decode cX3_init 77 = .ok (.getfield 11, 3) := by decide +kernel
theorem dX3_init_80 : decode cX3_init 80 = .ok (.iload_n 1, 1) := by decide +kernel
theorem dX3_init_81 : decode cX3_init 81 = .ok (.new 9, 3) := by decide +kernel
theorem dX3_init_84 : decode cX3_init 84 = .ok (.dup, 1) := by decide +kernel
theorem dX3_init_85 : decode cX3_init 85 = .ok (.invokespecial 43, 3) := by decide +kernel
theorem dX3_init_88 : decode cX3_init 88 = .ok (.aastore, 1) := by decide +kernel
theorem dX3_init_89 : decode cX3_init 89 = .ok (.iinc 1 1, 3) := by decide +kernel
theorem dX3_init_92 : decode cX3_init 92 = .ok (.goto (-22), 3) := by decide +kernel
theorem dX3_init_95 : decode cX3_init 95 = .ok (.iconst 0, 1) := by decide +kernel
theorem dX3_init_96 : decode cX3_init 96 = .ok (.istore_n 1, 1) := by decide +kernel
theorem dX3_init_97 : decode cX3_init 97 = .ok (.iload_n 1, 1) := by decide +kernel
theorem dX3_init_98 : decode cX3_init 98 = .ok (.bipush 12, 2) := by decide +kernel
theorem dX3_init_100 : decode cX3_init 100 = .ok (.if_icmp .ge 18, 3) := by decide +kernel
theorem dX3_init_103 : decode cX3_init 103 = .ok (.aload_n 0, 1) := by decide +kernel
theorem dX3_init_104 : decode cX3_init 104 = .ok (.getfield 31, 3) := by decide +kernel
theorem dX3_init_107 : decode cX3_init 107 = .ok (.iload_n 1, 1) := by decide +kernel
theorem dX3_init_108 : decode cX3_init 108 = .ok (.iconst 1, 1) := by decide +kernel
theorem dX3_init_109 : decode cX3_init 109 = .ok (.iload_n 1, 1) := by decide +kernel
theorem dX3_init_110 : decode cX3_init 110 = .ok (.ishl, 1) := by decide +kernel
theorem dX3_init_111 : decode cX3_init 111 = .ok (.iastore, 1) := by decide +kernel
theorem dX3_init_112 : decode cX3_init 112 = .ok (.iinc 1 1, 3) := by decide +kernel
theorem dX3_init_115 : decode cX3_init 115 = .ok (.goto (-18), 3) := by decide +kernel
theorem dX3_init_118 : decode cX3_init 118 = .ok (.return_, 1) := by decide +kernel
theorem dX3_addStop_0 : decode cX3_addStop 0 = .ok (.aload_n 0, 1) := by decide +kernel
theorem dX3_addStop_1 : decode cX3_addStop 1 = .ok (.getfield 11, 3) := by decide +kernel
theorem dX3_addStop_4 : decode cX3_addStop 4 = .ok (.iload_n 1, 1) := by decide +kernel
theorem dX3_addStop_5 : decode cX3_addStop 5 = .ok (.aaload, 1) := by decide +kernel
theorem dX3_addStop_6 : decode cX3_addStop 6 = .ok (.astore 4, 2) := by decide +kernel
theorem dX3_addStop_8 : decode cX3_addStop 8 = .ok (.aload 4, 2) := by decide +kernel
theorem dX3_addStop_10 : decode cX3_addStop 10 = .ok (.getfield 44, 3) := by decide +kernel
theorem dX3_addStop_13 : decode cX3_addStop 13 = .ok (.istore 5, 2) := by decide +kernel
theorem dX3_addStop_15 : decode cX3_addStop 15 = .ok (.iload 5, 2) := by decide +kernel
theorem dX3_addStop_17 : decode cX3_addStop 17 = .ok (.bipush 6, 2) := by decide +kernel
theorem dX3_addStop_19 : decode cX3_addStop 19 = .ok (.if_icmp .lt 4, 3) := by decide +kernel
theorem dX3_addStop_22 : decode cX3_addStop 22 = .ok (.return_, 1) := by decide +kernel
theorem dX3_addStop_23 : decode cX3_addStop 23 = .ok (.aload 4, 2) := by decide +kernel
theorem dX3_addStop_25 : decode cX3_addStop 25 = .ok (.getfield 47, 3) := by decide +kernel
theorem dX3_addStop_28 : decode cX3_addStop 28 = .ok (.iload 5, 2) := by decide +kernel
theorem dX3_addStop_30 : decode cX3_addStop 30 = .ok (.iload_n 2, 1) := by decide +kernel
theorem dX3_addStop_31 : decode cX3_addStop 31 = .ok (.iastore, 1) := by decide +kernel
theorem dX3_addStop_32 : decode cX3_addStop 32 = .ok (.aload 4, 2) := by decide +kernel
theorem dX3_addStop_34 : decode cX3_addStop 34 = .ok (.getfield 50, 3) := by decide +kernel
theorem dX3_addStop_37 : decode cX3_addStop 37 = .ok (.iload 5, 2) := by decide +kernel
theorem dX3_addStop_39 : decode cX3_addStop 39 = .ok (.iload_n 3, 1) := by decide +kernel
theorem dX3_addStop_40 : decode cX3_addStop 40 = .ok (.iastore, 1) := by decide +kernel
theorem dX3_addStop_41 : decode cX3_addStop 41 = .ok (.aload 4, 2) := by decide +kernel
theorem dX3_addStop_43 : decode cX3_addStop 43 = .ok (.iload 5, 2) := by decide +kernel
theorem dX3_addStop_45 : decode cX3_addStop 45 = .ok (.iconst 1, 1) := by decide +kernel
theorem dX3_addStop_46 : decode cX3_addStop 46 = .ok (.iadd, 1) := by decide +kernel
theorem dX3_addStop_47 : decode cX3_addStop 47 = .ok (.putfield 44, 3) := by decide +kernel
theorem dX3_addStop_50 : decode cX3_addStop 50 = .ok (.aload_n 0, 1) := by decide +kernel
theorem dX3_addStop_51 : decode cX3_addStop 51 = .ok (.aload 4, 2) := by decide +kernel
theorem dX3_addStop_53 : decode cX3_addStop 53 = .ok (.getfield 53, 3) := by decide +kernel
theorem dX3_addStop_56 : decode cX3_addStop 56 = .ok (.iload_n 3, 1) := by decide +kernel
theorem dX3_addStop_57 : decode cX3_addStop 57 = .ok (.iadd, 1) := by decide +kernel
theorem dX3_addStop_58 : decode cX3_addStop 58 = .ok (.bipush 24, 2) := by decide +kernel
theorem dX3_addStop_60 : decode cX3_addStop 60 = .ok (.irem, 1) := by decide +kernel
theorem dX3_addStop_61 : decode cX3_addStop 61 = .ok (.iload_n 1, 1) := by decide +kernel
theorem dX3_addStop_62 : decode cX3_addStop 62 = .ok (.iload 5, 2) := by decide +kernel
theorem dX3_addStop_64 : decode cX3_addStop 64 = .ok (.invokevirtual 56, 3) := by decide +kernel
theorem dX3_addStop_67 : decode cX3_addStop 67 = .ok (.aload_n 0, 1) := by decide +kernel
theorem dX3_addStop_68 : decode cX3_addStop 68 = .ok (.invokevirtual 60, 3) := by decide +kernel
theorem dX3_addStop_71 : decode cX3_addStop 71 = .ok (.return_, 1) := by decide +kernel
theorem dX3_addHalt_0 : decode cX3_addHalt 0 = .ok (.iload_n 1, 1) := by decide +kernel
theorem dX3_addHalt_1 : decode cX3_addHalt 1 = .ok (.iconst 4, 1) := by decide +kernel
theorem dX3_addHalt_2 : decode cX3_addHalt 2 = .ok (.ishl, 1) := by decide +kernel
theorem dX3_addHalt_3 : decode cX3_addHalt 3 = .ok (.iload_n 2, 1) := by decide +kernel
theorem dX3_addHalt_4 : decode cX3_addHalt 4 = .ok (.ior, 1) := by decide +kernel
theorem dX3_addHalt_5 : decode cX3_addHalt 5 = .ok (.iconst 3, 1) := by decide +kernel
theorem dX3_addHalt_6 : decode cX3_addHalt 6 = .ok (.ishl, 1) := by decide +kernel
theorem dX3_addHalt_7 : decode cX3_addHalt 7 = .ok (.bipush 7, 2) := by decide +kernel
theorem dX3_addHalt_9 : decode cX3_addHalt 9 = .ok (.iload_n 3, 1) := by decide +kernel
theorem dX3_addHalt_10 : decode cX3_addHalt 10 = .ok (.isub, 1) := by decide +kernel
theorem dX3_addHalt_11 : decode cX3_addHalt 11 = .ok (.ior, 1) := by decide +kernel
theorem dX3_addHalt_12 : decode cX3_addHalt 12 = .ok (.istore 4, 2) := by decide +kernel
theorem dX3_addHalt_14 : decode cX3_addHalt 14 = .ok (.aload_n 0, 1) := by decide +kernel
theorem dX3_addHalt_15 : decode cX3_addHalt 15 = .ok (.getfield 28, 3) := by decide +kernel
theorem dX3_addHalt_18 : decode cX3_addHalt 18 = .ok (.bipush 24, 2) := by decide +kernel
theorem dX3_addHalt_20 : decode cX3_addHalt 20 = .ok (.iaload, 1) := by decide +kernel
theorem dX3_addHalt_21 : decode cX3_addHalt 21 = .ok (.istore 5, 2) := by decide +kernel
theorem dX3_addHalt_23 : decode cX3_addHalt 23 = .ok (.iload 5, 2) := by decide +kernel
theorem dX3_addHalt_25 : decode cX3_addHalt 25 = .ok (.aload_n 0, 1) := by decide +kernel
theorem dX3_addHalt_26 : decode cX3_addHalt 26 = .ok (.getfield 24, 3) := by decide +kernel
theorem dX3_addHalt_29 : decode cX3_addHalt 29 = .ok (.arraylength, 1) := by decide +kernel
theorem dX3_addHalt_30 : decode cX3_addHalt 30 = .ok (.if_icmp .lt 4, 3) := by decide +kernel
theorem dX3_addHalt_33 : decode cX3_addHalt 33 = .ok (.return_, 1) := by decide +kernel
theorem dX3_addHalt_34 : decode cX3_addHalt 34 = .ok (.iload 5, 2) := by decide +kernel
theorem dX3_addHalt_36 : decode cX3_addHalt 36 = .ok (.ifCond .le 39, 3) := by decide +kernel
theorem dX3_addHalt_39 : decode cX3_addHalt 39 = .ok (.aload_n 0, 1) := by decide +kernel
theorem dX3_addHalt_40 : decode cX3_addHalt 40 = .ok (.getfield 24, 3) := by decide +kernel
theorem dX3_addHalt_43 : decode cX3_addHalt 43 = .ok (.iload 5, 2) := by decide +kernel
theorem dX3_addHalt_45 : decode cX3_addHalt 45 = .ok (.iconst 1, 1) := by decide +kernel
theorem dX3_addHalt_46 : decode cX3_addHalt 46 = .ok (.isub, 1) := by decide +kernel
theorem dX3_addHalt_47 : decode cX3_addHalt 47 = .ok (.iaload, 1) := by decide +kernel
theorem dX3_addHalt_48 : decode cX3_addHalt 48 = .ok (.iload 4, 2) := by decide +kernel
theorem dX3_addHalt_50 : decode cX3_addHalt 50 = .ok (.if_icmp .le 25, 3) := by decide +kernel
theorem dX3_addHalt_53 : decode cX3_addHalt 53 = .ok (.aload_n 0, 1) := by decide +kernel
theorem dX3_addHalt_54 : decode cX3_addHalt 54 = .ok (.getfield 24, 3) := by decide +kernel
theorem dX3_addHalt_57 : decode cX3_addHalt 57 = .ok (.iload 5, 2) := by decide +kernel
theorem dX3_addHalt_59 : decode cX3_addHalt 59 = .ok (.aload_n 0, 1) := by decide +kernel
theorem dX3_addHalt_60 : decode cX3_addHalt 60 = .ok (.getfield 24, 3) := by decide +kernel
theorem dX3_addHalt_63 : decode cX3_addHalt 63 = .ok (.iload 5, 2) := by decide +kernel
theorem dX3_addHalt_65 : decode cX3_addHalt 65 = .ok (.iconst 1, 1) := by decide +kernel
theorem dX3_addHalt_66 : decode cX3_addHalt 66 = .ok (.isub, 1) := by decide +kernel
theorem dX3_addHalt_67 : decode cX3_addHalt 67 = .ok (.iaload, 1) := by decide +kernel
theorem dX3_addHalt_68 : decode cX3_addHalt 68 = .ok (.iastore, 1) := by decide +kernel
theorem dX3_addHalt_69 : decode cX3_addHalt 69 = .ok (.iinc 5 (-1), 3) := by decide +kernel
theorem dX3_addHalt_72 : decode cX3_addHalt 72 = .ok (.goto (-38), 3) := by decide +kernel
theorem dX3_addHalt_75 : decode cX3_addHalt 75 = .ok (.aload_n 0, 1) := by decide +kernel
theorem dX3_addHalt_76 : decode cX3_addHalt 76 = .ok (.getfield 24, 3) := by decide +kernel
theorem dX3_addHalt_79 : decode cX3_addHalt 79 = .ok (.iload 5, 2) := by decide +kernel
theorem dX3_addHalt_81 : decode cX3_addHalt 81 = .ok (.iload 4, 2) := by decide +kernel
theorem dX3_addHalt_83 : decode cX3_addHalt 83 = .ok (.iastore, 1) := by decide +kernel
theorem dX3_addHalt_84 : decode cX3_addHalt 84 = .ok (.iload_n 1, 1) := by decide +kernel
theorem dX3_addHalt_85 : decode cX3_addHalt 85 = .ok (.iconst 1, 1) := by decide +kernel
theorem dX3_addHalt_86 : decode cX3_addHalt 86 = .ok (.iadd, 1) := by decide +kernel
theorem dX3_addHalt_87 : decode cX3_addHalt 87 = .ok (.istore 6, 2) := by decide +kernel
theorem dX3_addHalt_89 : decode cX3_addHalt 89 = .ok (.iload 6, 2) := by decide +kernel
theorem dX3_addHalt_91 : decode cX3_addHalt 91 = .ok (.bipush 24, 2) := by decide +kernel
theorem dX3_addHalt_93 : decode cX3_addHalt 93 = .ok (.if_icmp .gt 20, 3) := by decide +kernel
theorem dX3_addHalt_96 : decode cX3_addHalt 96 = .ok (.aload_n 0, 1) := by decide +kernel
theorem dX3_addHalt_97 : decode cX3_addHalt 97 = .ok (.getfield 28, 3) := by decide +kernel
theorem dX3_addHalt_100 : decode cX3_addHalt 100 = .ok (.iload 6, 2) := by decide +kernel
theorem dX3_addHalt_102 : decode cX3_addHalt 102 = .ok (.dup2, 1) := by decide +kernel
theorem dX3_addHalt_103 : decode cX3_addHalt 103 = .ok (.iaload, 1) := by decide +kernel
theorem dX3_addHalt_104 : decode cX3_addHalt 104 = .ok (.iconst 1, 1) := by decide +kernel
theorem dX3_addHalt_105 : decode cX3_addHalt 105 = .ok (.iadd, 1) := by decide +kernel
theorem dX3_addHalt_106 : decode cX3_addHalt 106 = .ok (.iastore, 1) := by decide +kernel
theorem dX3_addHalt_107 : decode cX3_addHalt 107 = .ok (.iinc 6 1, 3) := by decide +kernel
theorem dX3_addHalt_110 : decode cX3_addHalt 110 = .ok (.goto (-21), 3) := by decide +kernel
theorem dX3_addHalt_113 : decode cX3_addHalt 113 = .ok (.return_, 1) := by decide +kernel
theorem dX3_haltsBegin_0 : decode cX3_haltsBegin 0 = .ok (.aload_n 0, 1) := by decide +kernel
theorem dX3_haltsBegin_1 : decode cX3_haltsBegin 1 = .ok (.getfield 28, 3) := by decide +kernel
theorem dX3_haltsBegin_4 : decode cX3_haltsBegin 4 = .ok (.iload_n 1, 1) := by decide +kernel
theorem dX3_haltsBegin_5 : decode cX3_haltsBegin 5 = .ok (.bipush 24, 2) := by decide +kernel
theorem dX3_haltsBegin_7 : decode cX3_haltsBegin 7 = .ok (.irem, 1) := by decide +kernel
theorem dX3_haltsBegin_8 : decode cX3_haltsBegin 8 = .ok (.iaload, 1) := by decide +kernel
theorem dX3_haltsBegin_9 : decode cX3_haltsBegin 9 = .ok (.ireturn, 1) := by decide +kernel
theorem dX3_haltsEnd_0 : decode cX3_haltsEnd 0 = .ok (.aload_n 0, 1) := by decide +kernel
theorem dX3_haltsEnd_1 : decode cX3_haltsEnd 1 = .ok (.getfield 28, 3) := by decide +kernel
theorem dX3_haltsEnd_4 : decode cX3_haltsEnd 4 = .ok (.iload_n 1, 1) := by decide +kernel
theorem dX3_haltsEnd_5 : decode cX3_haltsEnd 5 = .ok (.bipush 24, 2) := by decide +kernel
theorem dX3_haltsEnd_7 : decode cX3_haltsEnd 7 = .ok (.irem, 1) := by decide +kernel
theorem dX3_haltsEnd_8 : decode cX3_haltsEnd 8 = .ok (.iconst 1, 1) := by decide +kernel
theorem dX3_haltsEnd_9 : decode cX3_haltsEnd 9 = .ok (.iadd, 1) := by decide +kernel
theorem dX3_haltsEnd_10 : decode cX3_haltsEnd 10 = .ok (.iaload, 1) := by decide +kernel
theorem dX3_haltsEnd_11 : decode cX3_haltsEnd 11 = .ok (.ireturn, 1) := by decide +kernel
theorem dX3_hasHalts_0 : decode cX3_hasHalts 0 = .ok (.aload_n 0, 1) := by decide +kernel
theorem dX3_hasHalts_1 : decode cX3_hasHalts 1 = .ok (.iload_n 1, 1) := by decide +kernel
theorem dX3_hasHalts_2 : decode cX3_hasHalts 2 = .ok (.invokevirtual 63, 3) := by decide +kernel
theorem dX3_hasHalts_5 : decode cX3_hasHalts 5 = .ok (.aload_n 0, 1) := by decide +kernel
theorem dX3_hasHalts_6 : decode cX3_hasHalts 6 = .ok (.iload_n 1, 1) := by decide +kernel
theorem dX3_hasHalts_7 : decode cX3_hasHalts 7 = .ok (.invokevirtual 67, 3) := by decide +kernel
theorem dX3_hasHalts_10 : decode cX3_hasHalts 10 = .ok (.if_icmp .ge 7, 3) := by decide +kernel
theorem dX3_hasHalts_13 : decode cX3_hasHalts 13 = .ok (.iconst 1, 1) := by decide +kernel
theorem dX3_hasHalts_14 : decode cX3_hasHalts 14 = .ok (.goto 4, 3) := by decide +kernel
theorem dX3_hasHalts_17 : decode cX3_hasHalts 17 = .ok (.iconst 0, 1) := by decide +kernel
theorem dX3_hasHalts_18 : decode cX3_hasHalts 18 = .ok (.ireturn, 1) := by decide +kernel
theorem dX3_cartOf_0 : decode cX3_cartOf 0 = .ok (.aload_n 0, 1) := by decide +kernel
theorem dX3_cartOf_1 : decode cX3_cartOf 1 = .ok (.getfield 24, 3) := by decide +kernel
theorem dX3_cartOf_4 : decode cX3_cartOf 4 = .ok (.iload_n 1, 1) := by decide +kernel
theorem dX3_cartOf_5 : decode cX3_cartOf 5 = .ok (.iaload, 1) := by decide +kernel
theorem dX3_cartOf_6 : decode cX3_cartOf 6 = .ok (.iconst 3, 1) := by decide +kernel
theorem dX3_cartOf_7 : decode cX3_cartOf 7 = .ok (.ishr, 1) := by decide +kernel
theorem dX3_cartOf_8 : decode cX3_cartOf 8 = .ok (.bipush 15, 2) := by decide +kernel
theorem dX3_cartOf_10 : decode cX3_cartOf 10 = .ok (.iand, 1) := by decide +kernel
theorem dX3_cartOf_11 : decode cX3_cartOf 11 = .ok (.ireturn, 1) := by decide +kernel
theorem dX3_stopOf_0 : decode cX3_stopOf 0 = .ok (.bipush 7, 2) := by decide +kernel
theorem dX3_stopOf_2 : decode cX3_stopOf 2 = .ok (.aload_n 0, 1) := by decide +kernel
theorem dX3_stopOf_3 : decode cX3_stopOf 3 = .ok (.getfield 24, 3) := by decide +kernel
theorem dX3_stopOf_6 : decode cX3_stopOf 6 = .ok (.iload_n 1, 1) := by decide +kernel
theorem dX3_stopOf_7 : decode cX3_stopOf 7 = .ok (.iaload, 1) := by decide +kernel
theorem dX3_stopOf_8 : decode cX3_stopOf 8 = .ok (.bipush 7, 2) := by decide +kernel
theorem dX3_stopOf_10 : decode cX3_stopOf 10 = .ok (.iand, 1) := by decide +kernel
theorem dX3_stopOf_11 : decode cX3_stopOf 11 = .ok (.isub, 1) := by decide +kernel
theorem dX3_stopOf_12 : decode cX3_stopOf 12 = .ok (.ireturn, 1) := by decide +kernel
theorem dX3_renew_0 : decode cX3_renew 0 = .ok (.aload_n 0, 1) := by decide +kernel
theorem dX3_renew_1 : decode cX3_renew 1 = .ok (.dup, 1) := by decide +kernel
theorem dX3_renew_2 : decode cX3_renew 2 = .ok (.getfield 21, 3) := by decide +kernel
theorem dX3_renew_5 : decode cX3_renew 5 = .ok (.iconst 1, 1) := by decide +kernel
theorem dX3_renew_6 : decode cX3_renew 6 = .ok (.iadd, 1) := by decide +kernel
theorem dX3_renew_7 : decode cX3_renew 7 = .ok (.putfield 21, 3) := by decide +kernel
theorem dX3_renew_10 : decode cX3_renew 10 = .ok (.iconst 0, 1) := by decide +kernel
theorem dX3_renew_11 : decode cX3_renew 11 = .ok (.istore_n 1, 1) := by decide +kernel
theorem dX3_renew_12 : decode cX3_renew 12 = .ok (.iload_n 1, 1) := by decide +kernel
theorem dX3_renew_13 : decode cX3_renew 13 = .ok (.bipush 12, 2) := by decide +kernel
theorem dX3_renew_15 : decode cX3_renew 15 = .ok (.if_icmp .ge 18, 3) := by decide +kernel
theorem dX3_renew_18 : decode cX3_renew 18 = .ok (.aload_n 0, 1) := by decide +kernel
theorem dX3_renew_19 : decode cX3_renew 19 = .ok (.getfield 31, 3) := by decide +kernel
theorem dX3_renew_22 : decode cX3_renew 22 = .ok (.iload_n 1, 1) := by decide +kernel
theorem dX3_renew_23 : decode cX3_renew 23 = .ok (.iconst 1, 1) := by decide +kernel
theorem dX3_renew_24 : decode cX3_renew 24 = .ok (.iload_n 1, 1) := by decide +kernel
theorem dX3_renew_25 : decode cX3_renew 25 = .ok (.ishl, 1) := by decide +kernel
theorem dX3_renew_26 : decode cX3_renew 26 = .ok (.iastore, 1) := by decide +kernel
theorem dX3_renew_27 : decode cX3_renew 27 = .ok (.iinc 1 1, 3) := by decide +kernel
theorem dX3_renew_30 : decode cX3_renew 30 = .ok (.goto (-18), 3) := by decide +kernel
theorem dX3_renew_33 : decode cX3_renew 33 = .ok (.iconst 0, 1) := by decide +kernel
theorem dX3_renew_34 : decode cX3_renew 34 = .ok (.istore_n 1, 1) := by decide +kernel
theorem dX3_renew_35 : decode cX3_renew 35 = .ok (.iload_n 1, 1) := by decide +kernel
theorem dX3_renew_36 : decode cX3_renew 36 = .ok (.bipush 12, 2) := by decide +kernel
theorem dX3_renew_38 : decode cX3_renew 38 = .ok (.if_icmp .ge 17, 3) := by decide +kernel
theorem dX3_renew_41 : decode cX3_renew 41 = .ok (.aload_n 0, 1) := by decide +kernel
theorem dX3_renew_42 : decode cX3_renew 42 = .ok (.invokevirtual 70, 3) := by decide +kernel
theorem dX3_renew_45 : decode cX3_renew 45 = .ok (.ifCond .ne 4, 3) := by decide +kernel
theorem dX3_renew_48 : decode cX3_renew 48 = .ok (.return_, 1) := by decide +kernel
theorem dX3_renew_49 : decode cX3_renew 49 = .ok (.iinc 1 1, 3) := by decide +kernel
theorem dX3_renew_52 : decode cX3_renew 52 = .ok (.goto (-17), 3) := by decide +kernel
theorem dX3_renew_55 : decode cX3_renew 55 = .ok (.return_, 1) := by decide +kernel
theorem dX3_growLinks_0 : decode cX3_growLinks 0 = .ok (.iconst 0, 1) := by decide +kernel
theorem dX3_growLinks_1 : decode cX3_growLinks 1 = .ok (.istore_n 1, 1) := by decide +kernel
theorem dX3_growLinks_2 : decode cX3_growLinks 2 = .ok (.iconst 0, 1) := by decide +kernel
theorem dX3_growLinks_3 : decode cX3_growLinks 3 = .ok (.istore_n 2, 1) := by decide +kernel
theorem dX3_growLinks_4 : decode cX3_growLinks 4 = .ok (.iload_n 2, 1) := by decide +kernel
theorem dX3_growLinks_5 : decode cX3_growLinks 5 = .ok (.aload_n 0, 1) := by decide +kernel
theorem dX3_growLinks_6 : decode cX3_growLinks 6 = .ok (.getfield 17, 3) := by decide +kernel
theorem dX3_growLinks_9 : decode cX3_growLinks 9 = .ok (.if_icmp .ge 99, 3) := by decide +kernel
theorem dX3_growLinks_12 : decode cX3_growLinks 12 = .ok (.aload_n 0, 1) := by decide +kernel
theorem dX3_growLinks_13 : decode cX3_growLinks 13 = .ok (.getfield 11, 3) := by decide +kernel
theorem dX3_growLinks_16 : decode cX3_growLinks 16 = .ok (.iload_n 2, 1) := by decide +kernel
theorem dX3_growLinks_17 : decode cX3_growLinks 17 = .ok (.aaload, 1) := by decide +kernel
theorem dX3_growLinks_18 : decode cX3_growLinks 18 = .ok (.astore_n 3, 1) := by decide +kernel
theorem dX3_growLinks_19 : decode cX3_growLinks 19 = .ok (.iconst 0, 1) := by decide +kernel
theorem dX3_growLinks_20 : decode cX3_growLinks 20 = .ok (.istore 4, 2) := by decide +kernel
theorem dX3_growLinks_22 : decode cX3_growLinks 22 = .ok (.aload_n 3, 1) := by decide +kernel
theorem dX3_growLinks_23 : decode cX3_growLinks 23 = .ok (.getfield 74, 3) := by decide +kernel
theorem dX3_growLinks_26 : decode cX3_growLinks 26 = .ok (.ifCond .ne 7, 3) := by decide +kernel
theorem dX3_growLinks_29 : decode cX3_growLinks 29 = .ok (.iconst (-1), 1) := by decide +kernel
theorem dX3_growLinks_30 : decode cX3_growLinks 30 = .ok (.goto 9, 3) := by decide +kernel
theorem dX3_growLinks_33 : decode cX3_growLinks 33 = .ok (.aload_n 3, 1) := by decide +kernel
theorem dX3_growLinks_34 : decode cX3_growLinks 34 = .ok (.getfield 44, 3) := by decide +kernel
theorem dX3_growLinks_37 : decode cX3_growLinks 37 = .ok (.iconst 1, 1) := by decide +kernel
theorem dX3_growLinks_38 : decode cX3_growLinks 38 = .ok (.isub, 1) := by decide +kernel
theorem dX3_growLinks_39 : decode cX3_growLinks 39 = .ok (.istore 5, 2) := by decide +kernel
theorem dX3_growLinks_41 : decode cX3_growLinks 41 = .ok (.iload 5, 2) := by decide +kernel
theorem dX3_growLinks_43 : decode cX3_growLinks 43 = .ok (.ifCond .lt 59, 3) := by decide +kernel
theorem dX3_growLinks_46 : decode cX3_growLinks 46 = .ok (.aload_n 3, 1) := by decide +kernel
theorem dX3_growLinks_47 : decode cX3_growLinks 47 = .ok (.getfield 47, 3) := by decide +kernel
theorem dX3_growLinks_50 : decode cX3_growLinks 50 = .ok (.iload 5, 2) := by decide +kernel
theorem dX3_growLinks_52 : decode cX3_growLinks 52 = .ok (.iaload, 1) := by decide +kernel
theorem dX3_growLinks_53 : decode cX3_growLinks 53 = .ok (.istore 6, 2) := by decide +kernel
theorem dX3_growLinks_55 : decode cX3_growLinks 55 = .ok (.iload 4, 2) := by decide +kernel
theorem dX3_growLinks_57 : decode cX3_growLinks 57 = .ok (.aload_n 0, 1) := by decide +kernel
theorem dX3_growLinks_58 : decode cX3_growLinks 58 = .ok (.getfield 31, 3) := by decide +kernel
theorem dX3_growLinks_61 : decode cX3_growLinks 61 = .ok (.iload 6, 2) := by decide +kernel
theorem dX3_growLinks_63 : decode cX3_growLinks 63 = .ok (.iaload, 1) := by decide +kernel
theorem dX3_growLinks_64 : decode cX3_growLinks 64 = .ok (.iconst (-1), 1) := by decide +kernel
theorem dX3_growLinks_65 : decode cX3_growLinks 65 = .ok (.ixor, 1) := by decide +kernel
theorem dX3_growLinks_66 : decode cX3_growLinks 66 = .ok (.iand, 1) := by decide +kernel
theorem dX3_growLinks_67 : decode cX3_growLinks 67 = .ok (.ifCond .eq 17, 3) := by decide +kernel
theorem dX3_growLinks_70 : decode cX3_growLinks 70 = .ok (.aload_n 0, 1) := by decide +kernel
theorem dX3_growLinks_71 : decode cX3_growLinks 71 = .ok (.getfield 31, 3) := by decide +kernel
theorem dX3_growLinks_74 : decode cX3_growLinks 74 = .ok (.iload 6, 2) := by decide +kernel
theorem dX3_growLinks_76 : decode cX3_growLinks 76 = .ok (.dup2, 1) := by decide +kernel
theorem dX3_growLinks_77 : decode cX3_growLinks 77 = .ok (.iaload, 1) := by decide +kernel
theorem dX3_growLinks_78 : decode cX3_growLinks 78 = .ok (.iload 4, 2) := by decide +kernel
theorem dX3_growLinks_80 : decode cX3_growLinks 80 = .ok (.ior, 1) := by decide +kernel
theorem dX3_growLinks_81 : decode cX3_growLinks 81 = .ok (.iastore, 1) := by decide +kernel
theorem dX3_growLinks_82 : decode cX3_growLinks 82 = .ok (.iconst 1, 1) := by decide +kernel
theorem dX3_growLinks_83 : decode cX3_growLinks 83 = .ok (.istore_n 1, 1) := by decide +kernel
theorem dX3_growLinks_84 : decode cX3_growLinks 84 = .ok (.iload 4, 2) := by decide +kernel
theorem dX3_growLinks_86 : decode cX3_growLinks 86 = .ok (.aload_n 0, 1) := by decide +kernel
theorem dX3_growLinks_87 : decode cX3_growLinks 87 = .ok (.getfield 31, 3) := by decide +kernel
theorem dX3_growLinks_90 : decode cX3_growLinks 90 = .ok (.iload 6, 2) := by decide +kernel
theorem dX3_growLinks_92 : decode cX3_growLinks 92 = .ok (.iaload, 1) := by decide +kernel
theorem dX3_growLinks_93 : decode cX3_growLinks 93 = .ok (.ior, 1) := by decide +kernel
theorem dX3_growLinks_94 : decode cX3_growLinks 94 = .ok (.istore 4, 2) := by decide +kernel
theorem dX3_growLinks_96 : decode cX3_growLinks 96 = .ok (.iinc 5 (-1), 3) := by decide +kernel
theorem dX3_growLinks_99 : decode cX3_growLinks 99 = .ok (.goto (-58), 3) := by decide +kernel
theorem dX3_growLinks_102 : decode cX3_growLinks 102 = .ok (.iinc 2 1, 3) := by decide +kernel
theorem dX3_growLinks_105 : decode cX3_growLinks 105 = .ok (.goto (-101), 3) := by decide +kernel
theorem dX3_growLinks_108 : decode cX3_growLinks 108 = .ok (.iload_n 1, 1) := by decide +kernel
theorem dX3_growLinks_109 : decode cX3_growLinks 109 = .ok (.ireturn, 1) := by decide +kernel
theorem dX3_soonest_0 : decode cX3_soonest 0 = .ok (.aload_n 0, 1) := by decide +kernel
theorem dX3_soonest_1 : decode cX3_soonest 1 = .ok (.iconst 1, 1) := by decide +kernel
theorem dX3_soonest_2 : decode cX3_soonest 2 = .ok (.iload_n 1, 1) := by decide +kernel
theorem dX3_soonest_3 : decode cX3_soonest 3 = .ok (.ishl, 1) := by decide +kernel
theorem dX3_soonest_4 : decode cX3_soonest 4 = .ok (.putfield 40, 3) := by decide +kernel
theorem dX3_soonest_7 : decode cX3_soonest 7 = .ok (.iload 4, 2) := by decide +kernel
theorem dX3_soonest_9 : decode cX3_soonest 9 = .ok (.aload_n 0, 1) := by decide +kernel
theorem dX3_soonest_10 : decode cX3_soonest 10 = .ok (.getfield 31, 3) := by decide +kernel
theorem dX3_soonest_13 : decode cX3_soonest 13 = .ok (.iload_n 1, 1) := by decide +kernel
theorem dX3_soonest_14 : decode cX3_soonest 14 = .ok (.iaload, 1) := by decide +kernel
theorem dX3_soonest_15 : decode cX3_soonest 15 = .ok (.iconst (-1), 1) := by decide +kernel
theorem dX3_soonest_16 : decode cX3_soonest 16 = .ok (.ixor, 1) := by decide +kernel
theorem dX3_soonest_17 : decode cX3_soonest 17 = .ok (.iand, 1) := by decide +kernel
theorem dX3_soonest_18 : decode cX3_soonest 18 = .ok (.ifCond .eq 5, 3) := by decide +kernel
theorem dX3_soonest_21 : decode cX3_soonest 21 = .ok (.iconst (-1), 1) := by decide +kernel
theorem dX3_soonest_22 : decode cX3_soonest 22 = .ok (.ireturn, 1) := by decide +kernel
theorem dX3_soonest_23 : decode cX3_soonest 23 = .ok (.aload_n 0, 1) := by decide +kernel
theorem dX3_soonest_24 : decode cX3_soonest 24 = .ok (.getfield 34, 3) := by decide +kernel
theorem dX3_soonest_27 : decode cX3_soonest 27 = .ok (.iconst 0, 1) := by decide +kernel
theorem dX3_soonest_28 : decode cX3_soonest 28 = .ok (.invokestatic 77, 3) := by decide +kernel
theorem dX3_soonest_31 : decode cX3_soonest 31 = .ok (.iload_n 2, 1) := by decide +kernel
theorem dX3_soonest_32 : decode cX3_soonest 32 = .ok (.istore 5, 2) := by decide +kernel
theorem dX3_soonest_34 : decode cX3_soonest 34 = .ok (.iload 5, 2) := by decide +kernel
theorem dX3_soonest_36 : decode cX3_soonest 36 = .ok (.iload_n 3, 1) := by decide +kernel
theorem dX3_soonest_37 : decode cX3_soonest 37 = .ok (.if_icmp .gt 36, 3) := by decide +kernel
theorem dX3_soonest_40 : decode cX3_soonest 40 = .ok (.aload_n 0, 1) := by decide +kernel
theorem dX3_soonest_41 : decode cX3_soonest 41 = .ok (.iload 5, 2) := by decide +kernel
theorem dX3_soonest_43 : decode cX3_soonest 43 = .ok (.invokevirtual 83, 3) := by decide +kernel
theorem dX3_soonest_46 : decode cX3_soonest 46 = .ok (.aload_n 0, 1) := by decide +kernel
theorem dX3_soonest_47 : decode cX3_soonest 47 = .ok (.getfield 40, 3) := by decide +kernel
theorem dX3_soonest_50 : decode cX3_soonest 50 = .ok (.iload 4, 2) := by decide +kernel
theorem dX3_soonest_52 : decode cX3_soonest 52 = .ok (.iand, 1) := by decide +kernel
theorem dX3_soonest_53 : decode cX3_soonest 53 = .ok (.iload 4, 2) := by decide +kernel
theorem dX3_soonest_55 : decode cX3_soonest 55 = .ok (.if_icmp .ne 6, 3) := by decide +kernel
theorem dX3_soonest_58 : decode cX3_soonest 58 = .ok (.iload 5, 2) := by decide +kernel
theorem dX3_soonest_60 : decode cX3_soonest 60 = .ok (.ireturn, 1) := by decide +kernel
theorem dX3_soonest_61 : decode cX3_soonest 61 = .ok (.aload_n 0, 1) := by decide +kernel
theorem dX3_soonest_62 : decode cX3_soonest 62 = .ok (.iload 5, 2) := by decide +kernel
theorem dX3_soonest_64 : decode cX3_soonest 64 = .ok (.invokevirtual 87, 3) := by decide +kernel
theorem dX3_soonest_67 : decode cX3_soonest 67 = .ok (.iinc 5 1, 3) := by decide +kernel
theorem dX3_soonest_70 : decode cX3_soonest 70 = .ok (.goto (-36), 3) := by decide +kernel
theorem dX3_soonest_73 : decode cX3_soonest 73 = .ok (.iconst (-1), 1) := by decide +kernel
theorem dX3_soonest_74 : decode cX3_soonest 74 = .ok (.ireturn, 1) := by decide +kernel
theorem dX3_getDown_0 : decode cX3_getDown 0 = .ok (.aload_n 0, 1) := by decide +kernel
theorem dX3_getDown_1 : decode cX3_getDown 1 = .ok (.iload_n 1, 1) := by decide +kernel
theorem dX3_getDown_2 : decode cX3_getDown 2 = .ok (.invokevirtual 67, 3) := by decide +kernel
theorem dX3_getDown_5 : decode cX3_getDown 5 = .ok (.istore_n 2, 1) := by decide +kernel
theorem dX3_getDown_6 : decode cX3_getDown 6 = .ok (.aload_n 0, 1) := by decide +kernel
theorem dX3_getDown_7 : decode cX3_getDown 7 = .ok (.iload_n 1, 1) := by decide +kernel
theorem dX3_getDown_8 : decode cX3_getDown 8 = .ok (.invokevirtual 63, 3) := by decide +kernel
theorem dX3_getDown_11 : decode cX3_getDown 11 = .ok (.istore_n 3, 1) := by decide +kernel
theorem dX3_getDown_12 : decode cX3_getDown 12 = .ok (.iload_n 3, 1) := by decide +kernel
theorem dX3_getDown_13 : decode cX3_getDown 13 = .ok (.iload_n 2, 1) := by decide +kernel
theorem dX3_getDown_14 : decode cX3_getDown 14 = .ok (.if_icmp .ge 117, 3) := by decide +kernel
theorem dX3_getDown_17 : decode cX3_getDown 17 = .ok (.aload_n 0, 1) := by decide +kernel
theorem dX3_getDown_18 : decode cX3_getDown 18 = .ok (.iload_n 3, 1) := by decide +kernel
theorem dX3_getDown_19 : decode cX3_getDown 19 = .ok (.invokevirtual 90, 3) := by decide +kernel
theorem dX3_getDown_22 : decode cX3_getDown 22 = .ok (.istore 4, 2) := by decide +kernel
theorem dX3_getDown_24 : decode cX3_getDown 24 = .ok (.aload_n 0, 1) := by decide +kernel
theorem dX3_getDown_25 : decode cX3_getDown 25 = .ok (.getfield 34, 3) := by decide +kernel
theorem dX3_getDown_28 : decode cX3_getDown 28 = .ok (.iload 4, 2) := by decide +kernel
theorem dX3_getDown_30 : decode cX3_getDown 30 = .ok (.iaload, 1) := by decide +kernel
theorem dX3_getDown_31 : decode cX3_getDown 31 = .ok (.ifCond .ne 6, 3) := by decide +kernel
theorem dX3_getDown_34 : decode cX3_getDown 34 = .ok (.goto 91, 3) := by decide +kernel
theorem dX3_getDown_37 : decode cX3_getDown 37 = .ok (.aload_n 0, 1) := by decide +kernel
theorem dX3_getDown_38 : decode cX3_getDown 38 = .ok (.getfield 11, 3) := by decide +kernel
theorem dX3_getDown_41 : decode cX3_getDown 41 = .ok (.iload 4, 2) := by decide +kernel
theorem dX3_getDown_43 : decode cX3_getDown 43 = .ok (.aaload, 1) := by decide +kernel
theorem dX3_getDown_44 : decode cX3_getDown 44 = .ok (.astore 5, 2) := by decide +kernel
theorem dX3_getDown_46 : decode cX3_getDown 46 = .ok (.aload_n 0, 1) := by decide +kernel
theorem dX3_getDown_47 : decode cX3_getDown 47 = .ok (.iload_n 3, 1) := by decide +kernel
theorem dX3_getDown_48 : decode cX3_getDown 48 = .ok (.invokevirtual 93, 3) := by decide +kernel
theorem dX3_getDown_51 : decode cX3_getDown 51 = .ok (.istore 6, 2) := by decide +kernel
theorem dX3_getDown_53 : decode cX3_getDown 53 = .ok (.iconst 1, 1) := by decide +kernel
theorem dX3_getDown_54 : decode cX3_getDown 54 = .ok (.aload 5, 2) := by decide +kernel
theorem dX3_getDown_56 : decode cX3_getDown 56 = .ok (.iload 6, 2) := by decide +kernel
theorem dX3_getDown_58 : decode cX3_getDown 58 = .ok (.iload_n 1, 1) := by decide +kernel
theorem dX3_getDown_59 : decode cX3_getDown 59 = .ok (.invokevirtual 96, 3) := by decide +kernel
theorem dX3_getDown_62 : decode cX3_getDown 62 = .ok (.iconst 3, 1) := by decide +kernel
theorem dX3_getDown_63 : decode cX3_getDown 63 = .ok (.iand, 1) := by decide +kernel
theorem dX3_getDown_64 : decode cX3_getDown 64 = .ok (.ishl, 1) := by decide +kernel
theorem dX3_getDown_65 : decode cX3_getDown 65 = .ok (.istore 7, 2) := by decide +kernel
theorem dX3_getDown_67 : decode cX3_getDown 67 = .ok (.aload_n 0, 1) := by decide +kernel
theorem dX3_getDown_68 : decode cX3_getDown 68 = .ok (.getfield 34, 3) := by decide +kernel
theorem dX3_getDown_71 : decode cX3_getDown 71 = .ok (.iload 4, 2) := by decide +kernel
theorem dX3_getDown_73 : decode cX3_getDown 73 = .ok (.iaload, 1) := by decide +kernel
theorem dX3_getDown_74 : decode cX3_getDown 74 = .ok (.iload 7, 2) := by decide +kernel
theorem dX3_getDown_76 : decode cX3_getDown 76 = .ok (.iand, 1) := by decide +kernel
theorem dX3_getDown_77 : decode cX3_getDown 77 = .ok (.ifCond .eq 48, 3) := by decide +kernel
theorem dX3_getDown_80 : decode cX3_getDown 80 = .ok (.aload_n 0, 1) := by decide +kernel
theorem dX3_getDown_81 : decode cX3_getDown 81 = .ok (.dup, 1) := by decide +kernel
theorem dX3_getDown_82 : decode cX3_getDown 82 = .ok (.getfield 40, 3) := by decide +kernel
theorem dX3_getDown_85 : decode cX3_getDown 85 = .ok (.iconst 1, 1) := by decide +kernel
theorem dX3_getDown_86 : decode cX3_getDown 86 = .ok (.aload 5, 2) := by decide +kernel
theorem dX3_getDown_88 : decode cX3_getDown 88 = .ok (.getfield 47, 3) := by decide +kernel
theorem dX3_getDown_91 : decode cX3_getDown 91 = .ok (.iload 6, 2) := by decide +kernel
theorem dX3_getDown_93 : decode cX3_getDown 93 = .ok (.iaload, 1) := by decide +kernel
theorem dX3_getDown_94 : decode cX3_getDown 94 = .ok (.ishl, 1) := by decide +kernel
theorem dX3_getDown_95 : decode cX3_getDown 95 = .ok (.ior, 1) := by decide +kernel
theorem dX3_getDown_96 : decode cX3_getDown 96 = .ok (.putfield 40, 3) := by decide +kernel
theorem dX3_getDown_99 : decode cX3_getDown 99 = .ok (.iload 6, 2) := by decide +kernel
theorem dX3_getDown_101 : decode cX3_getDown 101 = .ok (.iconst 1, 1) := by decide +kernel
theorem dX3_getDown_102 : decode cX3_getDown 102 = .ok (.iadd, 1) := by decide +kernel
theorem dX3_getDown_103 : decode cX3_getDown 103 = .ok (.aload 5, 2) := by decide +kernel
theorem dX3_getDown_105 : decode cX3_getDown 105 = .ok (.getfield 44, 3) := by decide +kernel
theorem dX3_getDown_108 : decode cX3_getDown 108 = .ok (.if_icmp .ne 17, 3) := by decide +kernel
theorem dX3_getDown_111 : decode cX3_getDown 111 = .ok (.aload_n 0, 1) := by decide +kernel
theorem dX3_getDown_112 : decode cX3_getDown 112 = .ok (.getfield 34, 3) := by decide +kernel
theorem dX3_getDown_115 : decode cX3_getDown 115 = .ok (.iload 4, 2) := by decide +kernel
theorem dX3_getDown_117 : decode cX3_getDown 117 = .ok (.dup2, 1) := by decide +kernel
theorem dX3_getDown_118 : decode cX3_getDown 118 = .ok (.iaload, 1) := by decide +kernel
theorem dX3_getDown_119 : decode cX3_getDown 119 = .ok (.iload 7, 2) := by decide +kernel
theorem dX3_getDown_121 : decode cX3_getDown 121 = .ok (.iconst (-1), 1) := by decide +kernel
theorem dX3_getDown_122 : decode cX3_getDown 122 = .ok (.ixor, 1) := by decide +kernel
theorem dX3_getDown_123 : decode cX3_getDown 123 = .ok (.iand, 1) := by decide +kernel
theorem dX3_getDown_124 : decode cX3_getDown 124 = .ok (.iastore, 1) := by decide +kernel
theorem dX3_getDown_125 : decode cX3_getDown 125 = .ok (.iinc 3 1, 3) := by decide +kernel
theorem dX3_getDown_128 : decode cX3_getDown 128 = .ok (.goto (-116), 3) := by decide +kernel
theorem dX3_getDown_131 : decode cX3_getDown 131 = .ok (.return_, 1) := by decide +kernel
theorem dX3_getOn_0 : decode cX3_getOn 0 = .ok (.aload_n 0, 1) := by decide +kernel
theorem dX3_getOn_1 : decode cX3_getOn 1 = .ok (.iload_n 1, 1) := by decide +kernel
theorem dX3_getOn_2 : decode cX3_getOn 2 = .ok (.invokevirtual 67, 3) := by decide +kernel
theorem dX3_getOn_5 : decode cX3_getOn 5 = .ok (.istore_n 2, 1) := by decide +kernel
theorem dX3_getOn_6 : decode cX3_getOn 6 = .ok (.aload_n 0, 1) := by decide +kernel
theorem dX3_getOn_7 : decode cX3_getOn 7 = .ok (.iload_n 1, 1) := by decide +kernel
theorem dX3_getOn_8 : decode cX3_getOn 8 = .ok (.invokevirtual 63, 3) := by decide +kernel
theorem dX3_getOn_11 : decode cX3_getOn 11 = .ok (.istore_n 3, 1) := by decide +kernel
theorem dX3_getOn_12 : decode cX3_getOn 12 = .ok (.iload_n 3, 1) := by decide +kernel
theorem dX3_getOn_13 : decode cX3_getOn 13 = .ok (.iload_n 2, 1) := by decide +kernel
theorem dX3_getOn_14 : decode cX3_getOn 14 = .ok (.if_icmp .ge 101, 3) := by decide +kernel
theorem dX3_getOn_17 : decode cX3_getOn 17 = .ok (.aload_n 0, 1) := by decide +kernel
theorem dX3_getOn_18 : decode cX3_getOn 18 = .ok (.iload_n 3, 1) := by decide +kernel
theorem dX3_getOn_19 : decode cX3_getOn 19 = .ok (.invokevirtual 90, 3) := by decide +kernel
theorem dX3_getOn_22 : decode cX3_getOn 22 = .ok (.istore 4, 2) := by decide +kernel
theorem dX3_getOn_24 : decode cX3_getOn 24 = .ok (.aload_n 0, 1) := by decide +kernel
theorem dX3_getOn_25 : decode cX3_getOn 25 = .ok (.getfield 11, 3) := by decide +kernel
theorem dX3_getOn_28 : decode cX3_getOn 28 = .ok (.iload 4, 2) := by decide +kernel
theorem dX3_getOn_30 : decode cX3_getOn 30 = .ok (.aaload, 1) := by decide +kernel
theorem dX3_getOn_31 : decode cX3_getOn 31 = .ok (.astore 5, 2) := by decide +kernel
theorem dX3_getOn_33 : decode cX3_getOn 33 = .ok (.aload_n 0, 1) := by decide +kernel
theorem dX3_getOn_34 : decode cX3_getOn 34 = .ok (.iload_n 3, 1) := by decide +kernel
theorem dX3_getOn_35 : decode cX3_getOn 35 = .ok (.invokevirtual 93, 3) := by decide +kernel
theorem dX3_getOn_38 : decode cX3_getOn 38 = .ok (.istore 6, 2) := by decide +kernel
theorem dX3_getOn_40 : decode cX3_getOn 40 = .ok (.aload_n 0, 1) := by decide +kernel
theorem dX3_getOn_41 : decode cX3_getOn 41 = .ok (.getfield 40, 3) := by decide +kernel
theorem dX3_getOn_44 : decode cX3_getOn 44 = .ok (.aload 5, 2) := by decide +kernel
theorem dX3_getOn_46 : decode cX3_getOn 46 = .ok (.getfield 47, 3) := by decide +kernel
theorem dX3_getOn_49 : decode cX3_getOn 49 = .ok (.iload 6, 2) := by decide +kernel
theorem dX3_getOn_51 : decode cX3_getOn 51 = .ok (.iaload, 1) := by decide +kernel
theorem dX3_getOn_52 : decode cX3_getOn 52 = .ok (.ishr, 1) := by decide +kernel
theorem dX3_getOn_53 : decode cX3_getOn 53 = .ok (.iconst 1, 1) := by decide +kernel
theorem dX3_getOn_54 : decode cX3_getOn 54 = .ok (.iand, 1) := by decide +kernel
theorem dX3_getOn_55 : decode cX3_getOn 55 = .ok (.ifCond .eq 54, 3) := by decide +kernel
theorem dX3_getOn_58 : decode cX3_getOn 58 = .ok (.iload 6, 2) := by decide +kernel
theorem dX3_getOn_60 : decode cX3_getOn 60 = .ok (.iconst 1, 1) := by decide +kernel
theorem dX3_getOn_61 : decode cX3_getOn 61 = .ok (.iadd, 1) := by decide +kernel
theorem dX3_getOn_62 : decode cX3_getOn 62 = .ok (.aload 5, 2) := by decide +kernel
theorem dX3_getOn_64 : decode cX3_getOn 64 = .ok (.getfield 44, 3) := by decide +kernel
theorem dX3_getOn_67 : decode cX3_getOn 67 = .ok (.if_icmp .lt 6, 3) := by decide +kernel
theorem dX3_getOn_70 : decode cX3_getOn 70 = .ok (.goto 39, 3) := by decide +kernel
theorem dX3_getOn_73 : decode cX3_getOn 73 = .ok (.aload 5, 2) := by decide +kernel
theorem dX3_getOn_75 : decode cX3_getOn 75 = .ok (.iload 6, 2) := by decide +kernel
theorem dX3_getOn_77 : decode cX3_getOn 77 = .ok (.iload_n 1, 1) := by decide +kernel
theorem dX3_getOn_78 : decode cX3_getOn 78 = .ok (.invokevirtual 96, 3) := by decide +kernel
theorem dX3_getOn_81 : decode cX3_getOn 81 = .ok (.istore 7, 2) := by decide +kernel
theorem dX3_getOn_83 : decode cX3_getOn 83 = .ok (.aload 5, 2) := by decide +kernel
theorem dX3_getOn_85 : decode cX3_getOn 85 = .ok (.iload 7, 2) := by decide +kernel
theorem dX3_getOn_87 : decode cX3_getOn 87 = .ok (.invokevirtual 100, 3) := by decide +kernel
theorem dX3_getOn_90 : decode cX3_getOn 90 = .ok (.ifCond .eq 19, 3) := by decide +kernel
theorem dX3_getOn_93 : decode cX3_getOn 93 = .ok (.aload_n 0, 1) := by decide +kernel
theorem dX3_getOn_94 : decode cX3_getOn 94 = .ok (.getfield 34, 3) := by decide +kernel
theorem dX3_getOn_97 : decode cX3_getOn 97 = .ok (.iload 4, 2) := by decide +kernel
theorem dX3_getOn_99 : decode cX3_getOn 99 = .ok (.dup2, 1) := by decide +kernel
theorem dX3_getOn_100 : decode cX3_getOn 100 = .ok (.iaload, 1) := by decide +kernel
theorem dX3_getOn_101 : decode cX3_getOn 101 = .ok (.iconst 1, 1) := by decide +kernel
theorem dX3_getOn_102 : decode cX3_getOn 102 = .ok (.iload 7, 2) := by decide +kernel
theorem dX3_getOn_104 : decode cX3_getOn 104 = .ok (.iconst 3, 1) := by decide +kernel
theorem dX3_getOn_105 : decode cX3_getOn 105 = .ok (.iand, 1) := by decide +kernel
theorem dX3_getOn_106 : decode cX3_getOn 106 = .ok (.ishl, 1) := by decide +kernel
theorem dX3_getOn_107 : decode cX3_getOn 107 = .ok (.ior, 1) := by decide +kernel
theorem dX3_getOn_108 : decode cX3_getOn 108 = .ok (.iastore, 1) := by decide +kernel
theorem dX3_getOn_109 : decode cX3_getOn 109 = .ok (.iinc 3 1, 3) := by decide +kernel
theorem dX3_getOn_112 : decode cX3_getOn 112 = .ok (.goto (-100), 3) := by decide +kernel
theorem dX3_getOn_115 : decode cX3_getOn 115 = .ok (.return_, 1) := by decide +kernel
theorem dX3_startsFor_0 : decode cX3_startsFor 0 = .ok (.aload_n 0, 1) := by decide +kernel
theorem dX3_startsFor_1 : decode cX3_startsFor 1 = .ok (.iload_n 1, 1) := by decide +kernel
theorem dX3_startsFor_2 : decode cX3_startsFor 2 = .ok (.iload_n 2, 1) := by decide +kernel
theorem dX3_startsFor_3 : decode cX3_startsFor 3 = .ok (.iload_n 2, 1) := by decide +kernel
theorem dX3_startsFor_4 : decode cX3_startsFor 4 = .ok (.sipush 336, 3) := by decide +kernel
theorem dX3_startsFor_7 : decode cX3_startsFor 7 = .ok (.iadd, 1) := by decide +kernel
theorem dX3_startsFor_8 : decode cX3_startsFor 8 = .ok (.iload_n 3, 1) := by decide +kernel
theorem dX3_startsFor_9 : decode cX3_startsFor 9 = .ok (.aload_n 0, 1) := by decide +kernel
theorem dX3_startsFor_10 : decode cX3_startsFor 10 = .ok (.getfield 37, 3) := by decide +kernel
theorem dX3_startsFor_13 : decode cX3_startsFor 13 = .ok (.invokevirtual 104, 3) := by decide +kernel
theorem dX3_startsFor_16 : decode cX3_startsFor 16 = .ok (.iconst 0, 1) := by decide +kernel
theorem dX3_startsFor_17 : decode cX3_startsFor 17 = .ok (.istore 4, 2) := by decide +kernel
theorem dX3_startsFor_19 : decode cX3_startsFor 19 = .ok (.iconst 0, 1) := by decide +kernel
theorem dX3_startsFor_20 : decode cX3_startsFor 20 = .ok (.istore 5, 2) := by decide +kernel
theorem dX3_startsFor_22 : decode cX3_startsFor 22 = .ok (.iload 5, 2) := by decide +kernel
theorem dX3_startsFor_24 : decode cX3_startsFor 24 = .ok (.bipush 12, 2) := by decide +kernel
theorem dX3_startsFor_26 : decode cX3_startsFor 26 = .ok (.if_icmp .ge 29, 3) := by decide +kernel
theorem dX3_startsFor_29 : decode cX3_startsFor 29 = .ok (.aload_n 0, 1) := by decide +kernel
theorem dX3_startsFor_30 : decode cX3_startsFor 30 = .ok (.getfield 37, 3) := by decide +kernel
theorem dX3_startsFor_33 : decode cX3_startsFor 33 = .ok (.iload 5, 2) := by decide +kernel
theorem dX3_startsFor_35 : decode cX3_startsFor 35 = .ok (.iaload, 1) := by decide +kernel
theorem dX3_startsFor_36 : decode cX3_startsFor 36 = .ok (.iconst (-1), 1) := by decide +kernel
theorem dX3_startsFor_37 : decode cX3_startsFor 37 = .ok (.if_icmp .eq 12, 3) := by decide +kernel
theorem dX3_startsFor_40 : decode cX3_startsFor 40 = .ok (.iload 4, 2) := by decide +kernel
theorem dX3_startsFor_42 : decode cX3_startsFor 42 = .ok (.iconst 1, 1) := by decide +kernel
theorem dX3_startsFor_43 : decode cX3_startsFor 43 = .ok (.iload 5, 2) := by decide +kernel
theorem dX3_startsFor_45 : decode cX3_startsFor 45 = .ok (.ishl, 1) := by decide +kernel
theorem dX3_startsFor_46 : decode cX3_startsFor 46 = .ok (.ior, 1) := by decide +kernel
theorem dX3_startsFor_47 : decode cX3_startsFor 47 = .ok (.istore 4, 2) := by decide +kernel
theorem dX3_startsFor_49 : decode cX3_startsFor 49 = .ok (.iinc 5 1, 3) := by decide +kernel
theorem dX3_startsFor_52 : decode cX3_startsFor 52 = .ok (.goto (-30), 3) := by decide +kernel
theorem dX3_startsFor_55 : decode cX3_startsFor 55 = .ok (.iload 4, 2) := by decide +kernel
theorem dX3_startsFor_57 : decode cX3_startsFor 57 = .ok (.ireturn, 1) := by decide +kernel
theorem dX3_findLatest_0 : decode cX3_findLatest 0 = .ok (.aload_n 0, 1) := by decide +kernel
theorem dX3_findLatest_1 : decode cX3_findLatest 1 = .ok (.getfield 34, 3) := by decide +kernel
theorem dX3_findLatest_4 : decode cX3_findLatest 4 = .ok (.iconst 0, 1) := by decide +kernel
theorem dX3_findLatest_5 : decode cX3_findLatest 5 = .ok (.invokestatic 77, 3) := by decide +kernel
theorem dX3_findLatest_8 : decode cX3_findLatest 8 = .ok (.aload 5, 2) := by decide +kernel
theorem dX3_findLatest_10 : decode cX3_findLatest 10 = .ok (.iconst (-1), 1) := by decide +kernel
theorem dX3_findLatest_11 : decode cX3_findLatest 11 = .ok (.invokestatic 77, 3) := by decide +kernel
theorem dX3_findLatest_14 : decode cX3_findLatest 14 = .ok (.aload 5, 2) := by decide +kernel
theorem dX3_findLatest_16 : decode cX3_findLatest 16 = .ok (.iload_n 1, 1) := by decide +kernel
theorem dX3_findLatest_17 : decode cX3_findLatest 17 = .ok (.iload_n 3, 1) := by decide +kernel
theorem dX3_findLatest_18 : decode cX3_findLatest 18 = .ok (.iastore, 1) := by decide +kernel
theorem dX3_findLatest_19 : decode cX3_findLatest 19 = .ok (.iload_n 3, 1) := by decide +kernel
theorem dX3_findLatest_20 : decode cX3_findLatest 20 = .ok (.istore 6, 2) := by decide +kernel
theorem dX3_findLatest_22 : decode cX3_findLatest 22 = .ok (.iload 6, 2) := by decide +kernel
theorem dX3_findLatest_24 : decode cX3_findLatest 24 = .ok (.iload_n 2, 1) := by decide +kernel
theorem dX3_findLatest_25 : decode cX3_findLatest 25 = .ok (.if_icmp .lt 27, 3) := by decide +kernel
theorem dX3_findLatest_28 : decode cX3_findLatest 28 = .ok (.aload_n 0, 1) := by decide +kernel
theorem dX3_findLatest_29 : decode cX3_findLatest 29 = .ok (.iload 6, 2) := by decide +kernel
theorem dX3_findLatest_31 : decode cX3_findLatest 31 = .ok (.aload 5, 2) := by decide +kernel
theorem dX3_findLatest_33 : decode cX3_findLatest 33 = .ok (.invokevirtual 108, 3) := by decide +kernel
theorem dX3_findLatest_36 : decode cX3_findLatest 36 = .ok (.aload_n 0, 1) := by decide +kernel
theorem dX3_findLatest_37 : decode cX3_findLatest 37 = .ok (.iload 6, 2) := by decide +kernel
theorem dX3_findLatest_39 : decode cX3_findLatest 39 = .ok (.iload 4, 2) := by decide +kernel
theorem dX3_findLatest_41 : decode cX3_findLatest 41 = .ok (.aload 5, 2) := by decide +kernel
theorem dX3_findLatest_43 : decode cX3_findLatest 43 = .ok (.invokevirtual 112, 3) := by decide +kernel
theorem dX3_findLatest_46 : decode cX3_findLatest 46 = .ok (.iinc 6 (-1), 3) := by decide +kernel
theorem dX3_findLatest_49 : decode cX3_findLatest 49 = .ok (.goto (-27), 3) := by decide +kernel
theorem dX3_findLatest_52 : decode cX3_findLatest 52 = .ok (.return_, 1) := by decide +kernel
theorem dX3_lookWhereItCameBy_0 : decode cX3_lookWhereItCameBy 0 = .ok (.aload_n 0, 1) := by decide +kernel
theorem dX3_lookWhereItCameBy_1 : decode cX3_lookWhereItCameBy 1 = .ok (.iload_n 1, 1) := by decide +kernel
theorem dX3_lookWhereItCameBy_2 : decode cX3_lookWhereItCameBy 2 = .ok (.invokevirtual 67, 3) := by decide +kernel
theorem dX3_lookWhereItCameBy_5 : decode cX3_lookWhereItCameBy 5 = .ok (.istore_n 3, 1) := by decide +kernel
theorem dX3_lookWhereItCameBy_6 : decode cX3_lookWhereItCameBy 6 = .ok (.aload_n 0, 1) := by decide +kernel
theorem dX3_lookWhereItCameBy_7 : decode cX3_lookWhereItCameBy 7 = .ok (.iload_n 1, 1) := by decide +kernel
theorem dX3_lookWhereItCameBy_8 : decode cX3_lookWhereItCameBy 8 = .ok (.invokevirtual 63, 3) := by decide +kernel
theorem dX3_lookWhereItCameBy_11 : decode cX3_lookWhereItCameBy 11 = .ok (.istore 4, 2) := by decide +kernel
theorem dX3_lookWhereItCameBy_13 : decode cX3_lookWhereItCameBy 13 = .ok (.iload 4, 2) := by decide +kernel
theorem dX3_lookWhereItCameBy_15 : decode cX3_lookWhereItCameBy 15 = .ok (.iload_n 3, 1) := by decide +kernel
theorem dX3_lookWhereItCameBy_16 : decode cX3_lookWhereItCameBy 16 = .ok (.if_icmp .ge 115, 3) := by decide +kernel
theorem dX3_lookWhereItCameBy_19 : decode cX3_lookWhereItCameBy 19 = .ok (.aload_n 0, 1) := by decide +kernel
theorem dX3_lookWhereItCameBy_20 : decode cX3_lookWhereItCameBy 20 = .ok (.iload 4, 2) := by decide +kernel
theorem dX3_lookWhereItCameBy_22 : decode cX3_lookWhereItCameBy 22 = .ok (.invokevirtual 90, 3) := by decide +kernel
theorem dX3_lookWhereItCameBy_25 : decode cX3_lookWhereItCameBy 25 = .ok (.istore 5, 2) := by decide +kernel
theorem dX3_lookWhereItCameBy_27 : decode cX3_lookWhereItCameBy 27 = .ok (.aload_n 0, 1) := by decide +kernel
theorem dX3_lookWhereItCameBy_28 : decode cX3_lookWhereItCameBy 28 = .ok (.getfield 34, 3) := by decide +kernel
theorem dX3_lookWhereItCameBy_31 : decode cX3_lookWhereItCameBy 31 = .ok (.iload 5, 2) := by decide +kernel
theorem dX3_lookWhereItCameBy_33 : decode cX3_lookWhereItCameBy 33 = .ok (.iaload, 1) := by decide +kernel
theorem dX3_lookWhereItCameBy_34 : decode cX3_lookWhereItCameBy 34 = .ok (.ifCond .ne 6, 3) := by decide +kernel
theorem dX3_lookWhereItCameBy_37 : decode cX3_lookWhereItCameBy 37 = .ok (.goto 88, 3) := by decide +kernel
theorem dX3_lookWhereItCameBy_40 : decode cX3_lookWhereItCameBy 40 = .ok (.aload_n 0, 1) := by decide +kernel
theorem dX3_lookWhereItCameBy_41 : decode cX3_lookWhereItCameBy 41 = .ok (.getfield 11, 3) := by decide +kernel
theorem dX3_lookWhereItCameBy_44 : decode cX3_lookWhereItCameBy 44 = .ok (.iload 5, 2) := by decide +kernel
theorem dX3_lookWhereItCameBy_46 : decode cX3_lookWhereItCameBy 46 = .ok (.aaload, 1) := by decide +kernel
theorem dX3_lookWhereItCameBy_47 : decode cX3_lookWhereItCameBy 47 = .ok (.astore 6, 2) := by decide +kernel
theorem dX3_lookWhereItCameBy_49 : decode cX3_lookWhereItCameBy 49 = .ok (.aload_n 0, 1) := by decide +kernel
theorem dX3_lookWhereItCameBy_50 : decode cX3_lookWhereItCameBy 50 = .ok (.iload 4, 2) := by decide +kernel
theorem dX3_lookWhereItCameBy_52 : decode cX3_lookWhereItCameBy 52 = .ok (.invokevirtual 93, 3) := by decide +kernel
theorem dX3_lookWhereItCameBy_55 : decode cX3_lookWhereItCameBy 55 = .ok (.istore 7, 2) := by decide +kernel
theorem dX3_lookWhereItCameBy_57 : decode cX3_lookWhereItCameBy 57 = .ok (.iconst 1, 1) := by decide +kernel
theorem dX3_lookWhereItCameBy_58 : decode cX3_lookWhereItCameBy 58 = .ok (.aload 6, 2) := by decide +kernel
theorem dX3_lookWhereItCameBy_60 : decode cX3_lookWhereItCameBy 60 = .ok (.iload 7, 2) := by decide +kernel
theorem dX3_lookWhereItCameBy_62 : decode cX3_lookWhereItCameBy 62 = .ok (.iload_n 1, 1) := by decide +kernel
theorem dX3_lookWhereItCameBy_63 : decode cX3_lookWhereItCameBy 63 = .ok (.invokevirtual 96, 3) := by decide +kernel
theorem dX3_lookWhereItCameBy_66 : decode cX3_lookWhereItCameBy 66 = .ok (.iconst 3, 1) := by decide +kernel
theorem dX3_lookWhereItCameBy_67 : decode cX3_lookWhereItCameBy 67 = .ok (.iand, 1) := by decide +kernel
theorem dX3_lookWhereItCameBy_68 : decode cX3_lookWhereItCameBy 68 = .ok (.ishl, 1) := by decide +kernel
theorem dX3_lookWhereItCameBy_69 : decode cX3_lookWhereItCameBy 69 = .ok (.istore 8, 2) := by decide +kernel
theorem dX3_lookWhereItCameBy_71 : decode cX3_lookWhereItCameBy 71 = .ok (.aload_n 0, 1) := by decide +kernel
theorem dX3_lookWhereItCameBy_72 : decode cX3_lookWhereItCameBy 72 = .ok (.getfield 34, 3) := by decide +kernel
theorem dX3_lookWhereItCameBy_75 : decode cX3_lookWhereItCameBy 75 = .ok (.iload 5, 2) := by decide +kernel
theorem dX3_lookWhereItCameBy_77 : decode cX3_lookWhereItCameBy 77 = .ok (.iaload, 1) := by decide +kernel
theorem dX3_lookWhereItCameBy_78 : decode cX3_lookWhereItCameBy 78 = .ok (.iload 8, 2) := by decide +kernel
theorem dX3_lookWhereItCameBy_80 : decode cX3_lookWhereItCameBy 80 = .ok (.iand, 1) := by decide +kernel
theorem dX3_lookWhereItCameBy_81 : decode cX3_lookWhereItCameBy 81 = .ok (.ifCond .eq 44, 3) := by decide +kernel
theorem dX3_lookWhereItCameBy_84 : decode cX3_lookWhereItCameBy 84 = .ok (.aload 6, 2) := by decide +kernel
theorem dX3_lookWhereItCameBy_86 : decode cX3_lookWhereItCameBy 86 = .ok (.getfield 47, 3) := by decide +kernel
theorem dX3_lookWhereItCameBy_89 : decode cX3_lookWhereItCameBy 89 = .ok (.iload 7, 2) := by decide +kernel
theorem dX3_lookWhereItCameBy_91 : decode cX3_lookWhereItCameBy 91 = .ok (.iaload, 1) := by decide +kernel
theorem dX3_lookWhereItCameBy_92 : decode cX3_lookWhereItCameBy 92 = .ok (.istore 9, 2) := by decide +kernel
theorem dX3_lookWhereItCameBy_94 : decode cX3_lookWhereItCameBy 94 = .ok (.aload_n 2, 1) := by decide +kernel
theorem dX3_lookWhereItCameBy_95 : decode cX3_lookWhereItCameBy 95 = .ok (.iload 9, 2) := by decide +kernel
theorem dX3_lookWhereItCameBy_97 : decode cX3_lookWhereItCameBy 97 = .ok (.aload_n 2, 1) := by decide +kernel
theorem dX3_lookWhereItCameBy_98 : decode cX3_lookWhereItCameBy 98 = .ok (.iload 9, 2) := by decide +kernel
theorem dX3_lookWhereItCameBy_100 : decode cX3_lookWhereItCameBy 100 = .ok (.iaload, 1) := by decide +kernel
theorem dX3_lookWhereItCameBy_101 : decode cX3_lookWhereItCameBy 101 = .ok (.iload_n 1, 1) := by decide +kernel
theorem dX3_lookWhereItCameBy_102 : decode cX3_lookWhereItCameBy 102 = .ok (.invokestatic 116, 3) := by decide +kernel
theorem dX3_lookWhereItCameBy_105 : decode cX3_lookWhereItCameBy 105 = .ok (.iastore, 1) := by decide +kernel
theorem dX3_lookWhereItCameBy_106 : decode cX3_lookWhereItCameBy 106 = .ok (.iload 7, 2) := by decide +kernel
theorem dX3_lookWhereItCameBy_108 : decode cX3_lookWhereItCameBy 108 = .ok (.ifCond .ne 17, 3) := by decide +kernel
theorem dX3_lookWhereItCameBy_111 : decode cX3_lookWhereItCameBy 111 = .ok (.aload_n 0, 1) := by decide +kernel
theorem dX3_lookWhereItCameBy_112 : decode cX3_lookWhereItCameBy 112 = .ok (.getfield 34, 3) := by decide +kernel
theorem dX3_lookWhereItCameBy_115 : decode cX3_lookWhereItCameBy 115 = .ok (.iload 5, 2) := by decide +kernel
theorem dX3_lookWhereItCameBy_117 : decode cX3_lookWhereItCameBy 117 = .ok (.dup2, 1) := by decide +kernel
theorem dX3_lookWhereItCameBy_118 : decode cX3_lookWhereItCameBy 118 = .ok (.iaload, 1) := by decide +kernel
theorem dX3_lookWhereItCameBy_119 : decode cX3_lookWhereItCameBy 119 = .ok (.iload 8, 2) := by decide +kernel
theorem dX3_lookWhereItCameBy_121 : decode cX3_lookWhereItCameBy 121 = .ok (.iconst (-1), 1) := by decide +kernel
theorem dX3_lookWhereItCameBy_122 : decode cX3_lookWhereItCameBy 122 = .ok (.ixor, 1) := by decide +kernel
theorem dX3_lookWhereItCameBy_123 : decode cX3_lookWhereItCameBy 123 = .ok (.iand, 1) := by decide +kernel
theorem dX3_lookWhereItCameBy_124 : decode cX3_lookWhereItCameBy 124 = .ok (.iastore, 1) := by decide +kernel
theorem dX3_lookWhereItCameBy_125 : decode cX3_lookWhereItCameBy 125 = .ok (.iinc 4 1, 3) := by decide +kernel
theorem dX3_lookWhereItCameBy_128 : decode cX3_lookWhereItCameBy 128 = .ok (.goto (-115), 3) := by decide +kernel
theorem dX3_lookWhereItCameBy_131 : decode cX3_lookWhereItCameBy 131 = .ok (.return_, 1) := by decide +kernel
theorem dX3_lookWhatComes_0 : decode cX3_lookWhatComes 0 = .ok (.aload_n 0, 1) := by decide +kernel
theorem dX3_lookWhatComes_1 : decode cX3_lookWhatComes 1 = .ok (.iload_n 1, 1) := by decide +kernel
theorem dX3_lookWhatComes_2 : decode cX3_lookWhatComes 2 = .ok (.invokevirtual 67, 3) := by decide +kernel
theorem dX3_lookWhatComes_5 : decode cX3_lookWhatComes 5 = .ok (.istore 4, 2) := by decide +kernel
theorem dX3_lookWhatComes_7 : decode cX3_lookWhatComes 7 = .ok (.aload_n 0, 1) := by decide +kernel
theorem dX3_lookWhatComes_8 : decode cX3_lookWhatComes 8 = .ok (.iload_n 1, 1) := by decide +kernel
theorem dX3_lookWhatComes_9 : decode cX3_lookWhatComes 9 = .ok (.invokevirtual 63, 3) := by decide +kernel
theorem dX3_lookWhatComes_12 : decode cX3_lookWhatComes 12 = .ok (.istore 5, 2) := by decide +kernel
theorem dX3_lookWhatComes_14 : decode cX3_lookWhatComes 14 = .ok (.iload 5, 2) := by decide +kernel
theorem dX3_lookWhatComes_16 : decode cX3_lookWhatComes 16 = .ok (.iload 4, 2) := by decide +kernel
theorem dX3_lookWhatComes_18 : decode cX3_lookWhatComes 18 = .ok (.if_icmp .ge 98, 3) := by decide +kernel
theorem dX3_lookWhatComes_21 : decode cX3_lookWhatComes 21 = .ok (.aload_n 0, 1) := by decide +kernel
theorem dX3_lookWhatComes_22 : decode cX3_lookWhatComes 22 = .ok (.iload 5, 2) := by decide +kernel
theorem dX3_lookWhatComes_24 : decode cX3_lookWhatComes 24 = .ok (.invokevirtual 90, 3) := by decide +kernel
theorem dX3_lookWhatComes_27 : decode cX3_lookWhatComes 27 = .ok (.istore 6, 2) := by decide +kernel
theorem dX3_lookWhatComes_29 : decode cX3_lookWhatComes 29 = .ok (.aload_n 0, 1) := by decide +kernel
theorem dX3_lookWhatComes_30 : decode cX3_lookWhatComes 30 = .ok (.iload 5, 2) := by decide +kernel
theorem dX3_lookWhatComes_32 : decode cX3_lookWhatComes 32 = .ok (.invokevirtual 93, 3) := by decide +kernel
theorem dX3_lookWhatComes_35 : decode cX3_lookWhatComes 35 = .ok (.istore 7, 2) := by decide +kernel
theorem dX3_lookWhatComes_37 : decode cX3_lookWhatComes 37 = .ok (.aload_n 0, 1) := by decide +kernel
theorem dX3_lookWhatComes_38 : decode cX3_lookWhatComes 38 = .ok (.getfield 11, 3) := by decide +kernel
theorem dX3_lookWhatComes_41 : decode cX3_lookWhatComes 41 = .ok (.iload 6, 2) := by decide +kernel
theorem dX3_lookWhatComes_43 : decode cX3_lookWhatComes 43 = .ok (.aaload, 1) := by decide +kernel
theorem dX3_lookWhatComes_44 : decode cX3_lookWhatComes 44 = .ok (.astore 8, 2) := by decide +kernel
theorem dX3_lookWhatComes_46 : decode cX3_lookWhatComes 46 = .ok (.iload 6, 2) := by decide +kernel
theorem dX3_lookWhatComes_48 : decode cX3_lookWhatComes 48 = .ok (.iload_n 2, 1) := by decide +kernel
theorem dX3_lookWhatComes_49 : decode cX3_lookWhatComes 49 = .ok (.if_icmp .eq 61, 3) := by decide +kernel
theorem dX3_lookWhatComes_52 : decode cX3_lookWhatComes 52 = .ok (.iload 7, 2) := by decide +kernel
theorem dX3_lookWhatComes_54 : decode cX3_lookWhatComes 54 = .ok (.ifCond .eq 56, 3) := by decide +kernel
theorem dX3_lookWhatComes_57 : decode cX3_lookWhatComes 57 = .ok (.aload_n 3, 1) := by decide +kernel
theorem dX3_lookWhatComes_58 : decode cX3_lookWhatComes 58 = .ok (.aload 8, 2) := by decide +kernel
theorem dX3_lookWhatComes_60 : decode cX3_lookWhatComes 60 = .ok (.getfield 47, 3) := by decide +kernel
theorem dX3_lookWhatComes_63 : decode cX3_lookWhatComes 63 = .ok (.iload 7, 2) := by decide +kernel
theorem dX3_lookWhatComes_65 : decode cX3_lookWhatComes 65 = .ok (.iaload, 1) := by decide +kernel
theorem dX3_lookWhatComes_66 : decode cX3_lookWhatComes 66 = .ok (.iaload, 1) := by decide +kernel
theorem dX3_lookWhatComes_67 : decode cX3_lookWhatComes 67 = .ok (.iconst (-1), 1) := by decide +kernel
theorem dX3_lookWhatComes_68 : decode cX3_lookWhatComes 68 = .ok (.if_icmp .ne 6, 3) := by decide +kernel
theorem dX3_lookWhatComes_71 : decode cX3_lookWhatComes 71 = .ok (.goto 39, 3) := by decide +kernel
theorem dX3_lookWhatComes_74 : decode cX3_lookWhatComes 74 = .ok (.aload 8, 2) := by decide +kernel
theorem dX3_lookWhatComes_76 : decode cX3_lookWhatComes 76 = .ok (.iload 7, 2) := by decide +kernel
theorem dX3_lookWhatComes_78 : decode cX3_lookWhatComes 78 = .ok (.iload_n 1, 1) := by decide +kernel
theorem dX3_lookWhatComes_79 : decode cX3_lookWhatComes 79 = .ok (.invokevirtual 96, 3) := by decide +kernel
theorem dX3_lookWhatComes_82 : decode cX3_lookWhatComes 82 = .ok (.istore 9, 2) := by decide +kernel
theorem dX3_lookWhatComes_84 : decode cX3_lookWhatComes 84 = .ok (.aload 8, 2) := by decide +kernel
theorem dX3_lookWhatComes_86 : decode cX3_lookWhatComes 86 = .ok (.iload 9, 2) := by decide +kernel
theorem dX3_lookWhatComes_88 : decode cX3_lookWhatComes 88 = .ok (.invokevirtual 100, 3) := by decide +kernel
theorem dX3_lookWhatComes_91 : decode cX3_lookWhatComes 91 = .ok (.ifCond .eq 19, 3) := by decide +kernel
theorem dX3_lookWhatComes_94 : decode cX3_lookWhatComes 94 = .ok (.aload_n 0, 1) := by decide +kernel
theorem dX3_lookWhatComes_95 : decode cX3_lookWhatComes 95 = .ok (.getfield 34, 3) := by decide +kernel
theorem dX3_lookWhatComes_98 : decode cX3_lookWhatComes 98 = .ok (.iload 6, 2) := by decide +kernel
theorem dX3_lookWhatComes_100 : decode cX3_lookWhatComes 100 = .ok (.dup2, 1) := by decide +kernel
theorem dX3_lookWhatComes_101 : decode cX3_lookWhatComes 101 = .ok (.iaload, 1) := by decide +kernel
theorem dX3_lookWhatComes_102 : decode cX3_lookWhatComes 102 = .ok (.iconst 1, 1) := by decide +kernel
theorem dX3_lookWhatComes_103 : decode cX3_lookWhatComes 103 = .ok (.iload 9, 2) := by decide +kernel
theorem dX3_lookWhatComes_105 : decode cX3_lookWhatComes 105 = .ok (.iconst 3, 1) := by decide +kernel
theorem dX3_lookWhatComes_106 : decode cX3_lookWhatComes 106 = .ok (.iand, 1) := by decide +kernel
theorem dX3_lookWhatComes_107 : decode cX3_lookWhatComes 107 = .ok (.ishl, 1) := by decide +kernel
theorem dX3_lookWhatComes_108 : decode cX3_lookWhatComes 108 = .ok (.ior, 1) := by decide +kernel
theorem dX3_lookWhatComes_109 : decode cX3_lookWhatComes 109 = .ok (.iastore, 1) := by decide +kernel
theorem dX3_lookWhatComes_110 : decode cX3_lookWhatComes 110 = .ok (.iinc 5 1, 3) := by decide +kernel
theorem dX3_lookWhatComes_113 : decode cX3_lookWhatComes 113 = .ok (.goto (-99), 3) := by decide +kernel
theorem dX3_lookWhatComes_116 : decode cX3_lookWhatComes 116 = .ok (.return_, 1) := by decide +kernel
theorem dX3_earnedInAll_0 : decode cX3_earnedInAll 0 = .ok (.iconst 0, 1) := by decide +kernel
theorem dX3_earnedInAll_1 : decode cX3_earnedInAll 1 = .ok (.istore_n 1, 1) := by decide +kernel
theorem dX3_earnedInAll_2 : decode cX3_earnedInAll 2 = .ok (.iconst 0, 1) := by decide +kernel
theorem dX3_earnedInAll_3 : decode cX3_earnedInAll 3 = .ok (.istore_n 2, 1) := by decide +kernel
theorem dX3_earnedInAll_4 : decode cX3_earnedInAll 4 = .ok (.iload_n 2, 1) := by decide +kernel
theorem dX3_earnedInAll_5 : decode cX3_earnedInAll 5 = .ok (.aload_n 0, 1) := by decide +kernel
theorem dX3_earnedInAll_6 : decode cX3_earnedInAll 6 = .ok (.getfield 17, 3) := by decide +kernel
theorem dX3_earnedInAll_9 : decode cX3_earnedInAll 9 = .ok (.if_icmp .ge 21, 3) := by decide +kernel
theorem dX3_earnedInAll_12 : decode cX3_earnedInAll 12 = .ok (.iload_n 1, 1) := by decide +kernel
theorem dX3_earnedInAll_13 : decode cX3_earnedInAll 13 = .ok (.aload_n 0, 1) := by decide +kernel
theorem dX3_earnedInAll_14 : decode cX3_earnedInAll 14 = .ok (.getfield 11, 3) := by decide +kernel
theorem dX3_earnedInAll_17 : decode cX3_earnedInAll 17 = .ok (.iload_n 2, 1) := by decide +kernel
theorem dX3_earnedInAll_18 : decode cX3_earnedInAll 18 = .ok (.aaload, 1) := by decide +kernel
theorem dX3_earnedInAll_19 : decode cX3_earnedInAll 19 = .ok (.getfield 121, 3) := by decide +kernel
theorem dX3_earnedInAll_22 : decode cX3_earnedInAll 22 = .ok (.iadd, 1) := by decide +kernel
theorem dX3_earnedInAll_23 : decode cX3_earnedInAll 23 = .ok (.istore_n 1, 1) := by decide +kernel
theorem dX3_earnedInAll_24 : decode cX3_earnedInAll 24 = .ok (.iinc 2 1, 3) := by decide +kernel
theorem dX3_earnedInAll_27 : decode cX3_earnedInAll 27 = .ok (.goto (-23), 3) := by decide +kernel
theorem dX3_earnedInAll_30 : decode cX3_earnedInAll 30 = .ok (.iload_n 1, 1) := by decide +kernel
theorem dX3_earnedInAll_31 : decode cX3_earnedInAll 31 = .ok (.ireturn, 1) := by decide +kernel
theorem dJ6_bitCount_0f7a4_0 : decode cJ6_bitCount_0f7a4 0 = .ok (.iload_n 0, 1) := by decide +kernel
theorem dJ6_bitCount_0f7a4_1 : decode cJ6_bitCount_0f7a4 1 = .ok (.iload_n 0, 1) := by decide +kernel
theorem dJ6_bitCount_0f7a4_2 : decode cJ6_bitCount_0f7a4 2 = .ok (.iconst 1, 1) := by decide +kernel
theorem dJ6_bitCount_0f7a4_3 : decode cJ6_bitCount_0f7a4 3 = .ok (.iushr, 1) := by decide +kernel
theorem dJ6_bitCount_0f7a4_4 : decode cJ6_bitCount_0f7a4 4 = .ok (.ldc_w 265, 3) := by decide +kernel
theorem dJ6_bitCount_0f7a4_7 : decode cJ6_bitCount_0f7a4 7 = .ok (.iand, 1) := by decide +kernel
theorem dJ6_bitCount_0f7a4_8 : decode cJ6_bitCount_0f7a4 8 = .ok (.isub, 1) := by decide +kernel
theorem dJ6_bitCount_0f7a4_9 : decode cJ6_bitCount_0f7a4 9 = .ok (.istore_n 0, 1) := by decide +kernel
theorem dJ6_bitCount_0f7a4_10 : decode cJ6_bitCount_0f7a4 10 = .ok (.iload_n 0, 1) := by decide +kernel
theorem dJ6_bitCount_0f7a4_11 : decode cJ6_bitCount_0f7a4 11 = .ok (.ldc_w 266, 3) := by decide +kernel
theorem dJ6_bitCount_0f7a4_14 : decode cJ6_bitCount_0f7a4 14 = .ok (.iand, 1) := by decide +kernel
theorem dJ6_bitCount_0f7a4_15 : decode cJ6_bitCount_0f7a4 15 = .ok (.iload_n 0, 1) := by decide +kernel
theorem dJ6_bitCount_0f7a4_16 : decode cJ6_bitCount_0f7a4 16 = .ok (.iconst 2, 1) := by decide +kernel
theorem dJ6_bitCount_0f7a4_17 : decode cJ6_bitCount_0f7a4 17 = .ok (.iushr, 1) := by decide +kernel
theorem dJ6_bitCount_0f7a4_18 : decode cJ6_bitCount_0f7a4 18 = .ok (.ldc_w 266, 3) := by decide +kernel
theorem dJ6_bitCount_0f7a4_21 : decode cJ6_bitCount_0f7a4 21 = .ok (.iand, 1) := by decide +kernel
theorem dJ6_bitCount_0f7a4_22 : decode cJ6_bitCount_0f7a4 22 = .ok (.iadd, 1) := by decide +kernel
theorem dJ6_bitCount_0f7a4_23 : decode cJ6_bitCount_0f7a4 23 = .ok (.istore_n 0, 1) := by decide +kernel
theorem dJ6_bitCount_0f7a4_24 : decode cJ6_bitCount_0f7a4 24 = .ok (.iload_n 0, 1) := by decide +kernel
theorem dJ6_bitCount_0f7a4_25 : decode cJ6_bitCount_0f7a4 25 = .ok (.iload_n 0, 1) := by decide +kernel
theorem dJ6_bitCount_0f7a4_26 : decode cJ6_bitCount_0f7a4 26 = .ok (.iconst 4, 1) := by decide +kernel
theorem dJ6_bitCount_0f7a4_27 : decode cJ6_bitCount_0f7a4 27 = .ok (.iushr, 1) := by decide +kernel
theorem dJ6_bitCount_0f7a4_28 : decode cJ6_bitCount_0f7a4 28 = .ok (.iadd, 1) := by decide +kernel
theorem dJ6_bitCount_0f7a4_29 : decode cJ6_bitCount_0f7a4 29 = .ok (.ldc_w 267, 3) := by decide +kernel
theorem dJ6_bitCount_0f7a4_32 : decode cJ6_bitCount_0f7a4 32 = .ok (.iand, 1) := by decide +kernel
theorem dJ6_bitCount_0f7a4_33 : decode cJ6_bitCount_0f7a4 33 = .ok (.istore_n 0, 1) := by decide +kernel
theorem dJ6_bitCount_0f7a4_34 : decode cJ6_bitCount_0f7a4 34 = .ok (.iload_n 0, 1) := by decide +kernel
theorem dJ6_bitCount_0f7a4_35 : decode cJ6_bitCount_0f7a4 35 = .ok (.iload_n 0, 1) := by decide +kernel
theorem dJ6_bitCount_0f7a4_36 : decode cJ6_bitCount_0f7a4 36 = .ok (.bipush 8, 2) := by decide +kernel
theorem dJ6_bitCount_0f7a4_38 : decode cJ6_bitCount_0f7a4 38 = .ok (.iushr, 1) := by decide +kernel
theorem dJ6_bitCount_0f7a4_39 : decode cJ6_bitCount_0f7a4 39 = .ok (.iadd, 1) := by decide +kernel
theorem dJ6_bitCount_0f7a4_40 : decode cJ6_bitCount_0f7a4 40 = .ok (.istore_n 0, 1) := by decide +kernel
theorem dJ6_bitCount_0f7a4_41 : decode cJ6_bitCount_0f7a4 41 = .ok (.iload_n 0, 1) := by decide +kernel
theorem dJ6_bitCount_0f7a4_42 : decode cJ6_bitCount_0f7a4 42 = .ok (.iload_n 0, 1) := by decide +kernel
theorem dJ6_bitCount_0f7a4_43 : decode cJ6_bitCount_0f7a4 43 = .ok (.bipush 16, 2) := by decide +kernel
theorem dJ6_bitCount_0f7a4_45 : decode cJ6_bitCount_0f7a4 45 = .ok (.iushr, 1) := by decide +kernel
theorem dJ6_bitCount_0f7a4_46 : decode cJ6_bitCount_0f7a4 46 = .ok (.iadd, 1) := by decide +kernel
theorem dJ6_bitCount_0f7a4_47 : decode cJ6_bitCount_0f7a4 47 = .ok (.istore_n 0, 1) := by decide +kernel
theorem dJ6_bitCount_0f7a4_48 : decode cJ6_bitCount_0f7a4 48 = .ok (.iload_n 0, 1) := by decide +kernel
theorem dJ6_bitCount_0f7a4_49 : decode cJ6_bitCount_0f7a4 49 = .ok (.bipush 63, 2) := by decide +kernel
theorem dJ6_bitCount_0f7a4_51 : decode cJ6_bitCount_0f7a4 51 = .ok (.iand, 1) := by decide +kernel
theorem dJ6_bitCount_0f7a4_52 : decode cJ6_bitCount_0f7a4 52 = .ok (.ireturn, 1) := by decide +kernel
theorem dJ9_max_7cf53_0 : decode cJ9_max_7cf53 0 = .ok (.iload_n 0, 1) := by decide +kernel
theorem dJ9_max_7cf53_1 : decode cJ9_max_7cf53 1 = .ok (.iload_n 1, 1) := by decide +kernel
theorem dJ9_max_7cf53_2 : decode cJ9_max_7cf53 2 = .ok (.if_icmp .lt 7, 3) := by decide +kernel
theorem dJ9_max_7cf53_5 : decode cJ9_max_7cf53 5 = .ok (.iload_n 0, 1) := by decide +kernel
theorem dJ9_max_7cf53_6 : decode cJ9_max_7cf53 6 = .ok (.goto 4, 3) := by decide +kernel
theorem dJ9_max_7cf53_9 : decode cJ9_max_7cf53 9 = .ok (.iload_n 1, 1) := by decide +kernel
theorem dJ9_max_7cf53_10 : decode cJ9_max_7cf53 10 = .ok (.ireturn, 1) := by decide +kernel
theorem dJ9_min_7cf53_0 : decode cJ9_min_7cf53 0 = .ok (.iload_n 0, 1) := by decide +kernel
theorem dJ9_min_7cf53_1 : decode cJ9_min_7cf53 1 = .ok (.iload_n 1, 1) := by decide +kernel
theorem dJ9_min_7cf53_2 : decode cJ9_min_7cf53 2 = .ok (.if_icmp .gt 7, 3) := by decide +kernel
theorem dJ9_min_7cf53_5 : decode cJ9_min_7cf53 5 = .ok (.iload_n 0, 1) := by decide +kernel
theorem dJ9_min_7cf53_6 : decode cJ9_min_7cf53 6 = .ok (.goto 4, 3) := by decide +kernel
theorem dJ9_min_7cf53_9 : decode cJ9_min_7cf53 9 = .ok (.iload_n 1, 1) := by decide +kernel
theorem dJ9_min_7cf53_10 : decode cJ9_min_7cf53 10 = .ok (.ireturn, 1) := by decide +kernel
theorem dJ7_fill_53178_0 : decode cJ7_fill_53178 0 = .ok (.iconst 0, 1) := by decide +kernel
theorem dJ7_fill_53178_1 : decode cJ7_fill_53178 1 = .ok (.istore_n 2, 1) := by decide +kernel
theorem dJ7_fill_53178_2 : decode cJ7_fill_53178 2 = .ok (.aload_n 0, 1) := by decide +kernel
theorem dJ7_fill_53178_3 : decode cJ7_fill_53178 3 = .ok (.arraylength, 1) := by decide +kernel
theorem dJ7_fill_53178_4 : decode cJ7_fill_53178 4 = .ok (.istore_n 3, 1) := by decide +kernel
theorem dJ7_fill_53178_5 : decode cJ7_fill_53178 5 = .ok (.iload_n 2, 1) := by decide +kernel
theorem dJ7_fill_53178_6 : decode cJ7_fill_53178 6 = .ok (.iload_n 3, 1) := by decide +kernel
theorem dJ7_fill_53178_7 : decode cJ7_fill_53178 7 = .ok (.if_icmp .ge 13, 3) := by decide +kernel
theorem dJ7_fill_53178_10 : decode cJ7_fill_53178 10 = .ok (.aload_n 0, 1) := by decide +kernel
theorem dJ7_fill_53178_11 : decode cJ7_fill_53178 11 = .ok (.iload_n 2, 1) := by decide +kernel
theorem dJ7_fill_53178_12 : decode cJ7_fill_53178 12 = .ok (.iload_n 1, 1) := by decide +kernel
theorem dJ7_fill_53178_13 : decode cJ7_fill_53178 13 = .ok (.iastore, 1) := by decide +kernel
theorem dJ7_fill_53178_14 : decode cJ7_fill_53178 14 = .ok (.iinc 2 1, 3) := by decide +kernel
theorem dJ7_fill_53178_17 : decode cJ7_fill_53178 17 = .ok (.goto (-12), 3) := by decide +kernel
theorem dJ7_fill_53178_20 : decode cJ7_fill_53178 20 = .ok (.return_, 1) := by decide +kernel
theorem dL_told_0 : decode cL_told 0 = .ok (.aload_n 3, 1) := by decide +kernel
theorem dL_told_1 : decode cL_told 1 = .ok (.iconst 0, 1) := by decide +kernel
theorem dL_told_2 : decode cL_told 2 = .ok (.aload_n 0, 1) := by decide +kernel
theorem dL_told_3 : decode cL_told 3 = .ok (.iload_n 1, 1) := by decide +kernel
theorem dL_told_4 : decode cL_told 4 = .ok (.iload_n 2, 1) := by decide +kernel
theorem dL_told_5 : decode cL_told 5 = .ok (.invokevirtual 7, 3) := by decide +kernel
theorem dL_told_8 : decode cL_told 8 = .ok (.i2l, 1) := by decide +kernel
theorem dL_told_9 : decode cL_told 9 = .ok (.lastore, 1) := by decide +kernel
theorem dL_told_10 : decode cL_told 10 = .ok (.goto 7, 3) := by decide +kernel
theorem dL_told_13 : decode cL_told 13 = .ok (.astore 4, 2) := by decide +kernel
theorem dL_told_15 : decode cL_told 15 = .ok (.iconst 1, 1) := by decide +kernel
theorem dL_told_16 : decode cL_told 16 = .ok (.ireturn, 1) := by decide +kernel
theorem dL_told_17 : decode cL_told 17 = .ok (.iconst 0, 1) := by decide +kernel
theorem dL_told_18 : decode cL_told 18 = .ok (.ireturn, 1) := by decide +kernel
theorem dL_law_0 : decode cL_law 0 = .ok (.new 8, 3) := by decide +kernel
theorem dL_law_3 : decode cL_law 3 = .ok (.dup, 1) := by decide +kernel
theorem dL_law_4 : decode cL_law 4 = .ok (.invokespecial 15, 3) := by decide +kernel
theorem dL_law_7 : decode cL_law 7 = .ok (.astore_n 1, 1) := by decide +kernel
theorem dL_law_8 : decode cL_law 8 = .ok (.new 16, 3) := by decide +kernel
theorem dL_law_11 : decode cL_law 11 = .ok (.dup, 1) := by decide +kernel
theorem dL_law_12 : decode cL_law 12 = .ok (.invokespecial 18, 3) := by decide +kernel
theorem dL_law_15 : decode cL_law 15 = .ok (.astore_n 2, 1) := by decide +kernel
theorem dL_law_16 : decode cL_law 16 = .ok (.iconst 1, 1) := by decide +kernel
theorem dL_law_17 : decode cL_law 17 = .ok (.newarray .long, 2) := by decide +kernel
theorem dL_law_19 : decode cL_law 19 = .ok (.astore_n 3, 1) := by decide +kernel
theorem dL_law_20 : decode cL_law 20 = .ok (.iconst 0, 1) := by decide +kernel
theorem dL_law_21 : decode cL_law 21 = .ok (.istore 4, 2) := by decide +kernel
theorem dL_law_23 : decode cL_law 23 = .ok (.iload 4, 2) := by decide +kernel
theorem dL_law_25 : decode cL_law 25 = .ok (.aload_n 0, 1) := by decide +kernel
theorem dL_law_26 : decode cL_law 26 = .ok (.arraylength, 1) := by decide +kernel
theorem dL_law_27 : decode cL_law 27 = .ok (.bipush 6, 2) := by decide +kernel
theorem dL_law_29 : decode cL_law 29 = .ok (.isub, 1) := by decide +kernel
theorem dL_law_30 : decode cL_law 30 = .ok (.if_icmp .gt 925, 3) := by decide +kernel
theorem dL_law_33 : decode cL_law 33 = .ok (.aload_n 0, 1) := by decide +kernel
theorem dL_law_34 : decode cL_law 34 = .ok (.iload 4, 2) := by decide +kernel
theorem dL_law_36 : decode cL_law 36 = .ok (.iaload, 1) := by decide +kernel
theorem dL_law_37 : decode cL_law 37 = .ok (.bipush 31, 2) := by decide +kernel
theorem dL_law_39 : decode cL_law 39 = .ok (.iand, 1) := by decide +kernel
theorem dL_law_40 : decode cL_law 40 = .ok (.tableswitch 909 0 19 #[96, 169, 218, 279, 316, 353, 402, 451, 500, 549, 574, 614, 639, 664, 701, 750, 799, 810, 847, 884], 96) := by decide +kernel
theorem dL_law_136 : decode cL_law 136 = .ok (.aload_n 1, 1) := by decide +kernel
theorem dL_law_137 : decode cL_law 137 = .ok (.aload_n 0, 1) := by decide +kernel
theorem dL_law_138 : decode cL_law 138 = .ok (.iload 4, 2) := by decide +kernel
theorem dL_law_140 : decode cL_law 140 = .ok (.iconst 1, 1) := by decide +kernel
theorem dL_law_141 : decode cL_law 141 = .ok (.iadd, 1) := by decide +kernel
theorem dL_law_142 : decode cL_law 142 = .ok (.iaload, 1) := by decide +kernel
theorem dL_law_143 : decode cL_law 143 = .ok (.aload_n 0, 1) := by decide +kernel
theorem dL_law_144 : decode cL_law 144 = .ok (.iload 4, 2) := by decide +kernel
theorem dL_law_146 : decode cL_law 146 = .ok (.iconst 2, 1) := by decide +kernel
theorem dL_law_147 : decode cL_law 147 = .ok (.iadd, 1) := by decide +kernel
theorem dL_law_148 : decode cL_law 148 = .ok (.iaload, 1) := by decide +kernel
theorem dL_law_149 : decode cL_law 149 = .ok (.aload_n 0, 1) := by decide +kernel
theorem dL_law_150 : decode cL_law 150 = .ok (.iload 4, 2) := by decide +kernel
theorem dL_law_152 : decode cL_law 152 = .ok (.iconst 3, 1) := by decide +kernel
theorem dL_law_153 : decode cL_law 153 = .ok (.iadd, 1) := by decide +kernel
theorem dL_law_154 : decode cL_law 154 = .ok (.iaload, 1) := by decide +kernel
theorem dL_law_155 : decode cL_law 155 = .ok (.aload_n 0, 1) := by decide +kernel
theorem dL_law_156 : decode cL_law 156 = .ok (.iload 4, 2) := by decide +kernel
theorem dL_law_158 : decode cL_law 158 = .ok (.iconst 4, 1) := by decide +kernel
theorem dL_law_159 : decode cL_law 159 = .ok (.iadd, 1) := by decide +kernel
theorem dL_law_160 : decode cL_law 160 = .ok (.iaload, 1) := by decide +kernel
theorem dL_law_161 : decode cL_law 161 = .ok (.aload_n 0, 1) := by decide +kernel
theorem dL_law_162 : decode cL_law 162 = .ok (.iload 4, 2) := by decide +kernel
theorem dL_law_164 : decode cL_law 164 = .ok (.iconst 5, 1) := by decide +kernel
theorem dL_law_165 : decode cL_law 165 = .ok (.iadd, 1) := by decide +kernel
theorem dL_law_166 : decode cL_law 166 = .ok (.iaload, 1) := by decide +kernel
theorem dL_law_167 : decode cL_law 167 = .ok (.invokevirtual 19, 3) := by decide +kernel
theorem dL_law_170 : decode cL_law 170 = .ok (.pop, 1) := by decide +kernel
theorem dL_law_171 : decode cL_law 171 = .ok (.aload_n 2, 1) := by decide +kernel
theorem dL_law_172 : decode cL_law 172 = .ok (.aload_n 0, 1) := by decide +kernel
theorem dL_law_173 : decode cL_law 173 = .ok (.iload 4, 2) := by decide +kernel
theorem dL_law_175 : decode cL_law 175 = .ok (.iconst 1, 1) := by decide +kernel
theorem dL_law_176 : decode cL_law 176 = .ok (.iadd, 1) := by decide +kernel
theorem dL_law_177 : decode cL_law 177 = .ok (.iaload, 1) := by decide +kernel
theorem dL_law_178 : decode cL_law 178 = .ok (.aload_n 0, 1) := by decide +kernel
theorem dL_law_179 : decode cL_law 179 = .ok (.iload 4, 2) := by decide +kernel
theorem dL_law_181 : decode cL_law 181 = .ok (.iconst 2, 1) := by decide +kernel
theorem dL_law_182 : decode cL_law 182 = .ok (.iadd, 1) := by decide +kernel
theorem dL_law_183 : decode cL_law 183 = .ok (.iaload, 1) := by decide +kernel
theorem dL_law_184 : decode cL_law 184 = .ok (.aload_n 0, 1) := by decide +kernel
theorem dL_law_185 : decode cL_law 185 = .ok (.iload 4, 2) := by decide +kernel
theorem dL_law_187 : decode cL_law 187 = .ok (.iconst 3, 1) := by decide +kernel
theorem dL_law_188 : decode cL_law 188 = .ok (.iadd, 1) := by decide +kernel
theorem dL_law_189 : decode cL_law 189 = .ok (.iaload, 1) := by decide +kernel
theorem dL_law_190 : decode cL_law 190 = .ok (.aload_n 0, 1) := by decide +kernel
theorem dL_law_191 : decode cL_law 191 = .ok (.iload 4, 2) := by decide +kernel
theorem dL_law_193 : decode cL_law 193 = .ok (.iconst 4, 1) := by decide +kernel
theorem dL_law_194 : decode cL_law 194 = .ok (.iadd, 1) := by decide +kernel
theorem dL_law_195 : decode cL_law 195 = .ok (.iaload, 1) := by decide +kernel
theorem dL_law_196 : decode cL_law 196 = .ok (.aload_n 0, 1) := by decide +kernel
theorem dL_law_197 : decode cL_law 197 = .ok (.iload 4, 2) := by decide +kernel
theorem dL_law_199 : decode cL_law 199 = .ok (.iconst 5, 1) := by decide +kernel
theorem dL_law_200 : decode cL_law 200 = .ok (.iadd, 1) := by decide +kernel
theorem dL_law_201 : decode cL_law 201 = .ok (.iaload, 1) := by decide +kernel
theorem dL_law_202 : decode cL_law 202 = .ok (.invokevirtual 23, 3) := by decide +kernel
theorem dL_law_205 : decode cL_law 205 = .ok (.pop, 1) := by decide +kernel
theorem dL_law_206 : decode cL_law 206 = .ok (.goto 743, 3) := by decide +kernel
theorem dL_law_209 : decode cL_law 209 = .ok (.aload_n 1, 1) := by decide +kernel
theorem dL_law_210 : decode cL_law 210 = .ok (.aload_n 0, 1) := by decide +kernel
theorem dL_law_211 : decode cL_law 211 = .ok (.iload 4, 2) := by decide +kernel
theorem dL_law_213 : decode cL_law 213 = .ok (.iconst 1, 1) := by decide +kernel
theorem dL_law_214 : decode cL_law 214 = .ok (.iadd, 1) := by decide +kernel
theorem dL_law_215 : decode cL_law 215 = .ok (.iaload, 1) := by decide +kernel
theorem dL_law_216 : decode cL_law 216 = .ok (.aload_n 0, 1) := by decide +kernel
theorem dL_law_217 : decode cL_law 217 = .ok (.iload 4, 2) := by decide +kernel
theorem dL_law_219 : decode cL_law 219 = .ok (.iconst 2, 1) := by decide +kernel
theorem dL_law_220 : decode cL_law 220 = .ok (.iadd, 1) := by decide +kernel
theorem dL_law_221 : decode cL_law 221 = .ok (.iaload, 1) := by decide +kernel
theorem dL_law_222 : decode cL_law 222 = .ok (.aload_n 0, 1) := by decide +kernel
theorem dL_law_223 : decode cL_law 223 = .ok (.iload 4, 2) := by decide +kernel
theorem dL_law_225 : decode cL_law 225 = .ok (.iconst 3, 1) := by decide +kernel
theorem dL_law_226 : decode cL_law 226 = .ok (.iadd, 1) := by decide +kernel
theorem dL_law_227 : decode cL_law 227 = .ok (.iaload, 1) := by decide +kernel
theorem dL_law_228 : decode cL_law 228 = .ok (.invokevirtual 24, 3) := by decide +kernel
theorem dL_law_231 : decode cL_law 231 = .ok (.pop, 1) := by decide +kernel
theorem dL_law_232 : decode cL_law 232 = .ok (.aload_n 2, 1) := by decide +kernel
theorem dL_law_233 : decode cL_law 233 = .ok (.aload_n 0, 1) := by decide +kernel
theorem dL_law_234 : decode cL_law 234 = .ok (.iload 4, 2) := by decide +kernel
theorem dL_law_236 : decode cL_law 236 = .ok (.iconst 1, 1) := by decide +kernel
theorem dL_law_237 : decode cL_law 237 = .ok (.iadd, 1) := by decide +kernel
theorem dL_law_238 : decode cL_law 238 = .ok (.iaload, 1) := by decide +kernel
theorem dL_law_239 : decode cL_law 239 = .ok (.aload_n 0, 1) := by decide +kernel
theorem dL_law_240 : decode cL_law 240 = .ok (.iload 4, 2) := by decide +kernel
theorem dL_law_242 : decode cL_law 242 = .ok (.iconst 2, 1) := by decide +kernel
theorem dL_law_243 : decode cL_law 243 = .ok (.iadd, 1) := by decide +kernel
theorem dL_law_244 : decode cL_law 244 = .ok (.iaload, 1) := by decide +kernel
theorem dL_law_245 : decode cL_law 245 = .ok (.aload_n 0, 1) := by decide +kernel
theorem dL_law_246 : decode cL_law 246 = .ok (.iload 4, 2) := by decide +kernel
theorem dL_law_248 : decode cL_law 248 = .ok (.iconst 3, 1) := by decide +kernel
theorem dL_law_249 : decode cL_law 249 = .ok (.iadd, 1) := by decide +kernel
theorem dL_law_250 : decode cL_law 250 = .ok (.iaload, 1) := by decide +kernel
theorem dL_law_251 : decode cL_law 251 = .ok (.invokevirtual 28, 3) := by decide +kernel
theorem dL_law_254 : decode cL_law 254 = .ok (.pop, 1) := by decide +kernel
theorem dL_law_255 : decode cL_law 255 = .ok (.goto 694, 3) := by decide +kernel
theorem dL_law_258 : decode cL_law 258 = .ok (.aload_n 1, 1) := by decide +kernel
theorem dL_law_259 : decode cL_law 259 = .ok (.aload_n 0, 1) := by decide +kernel
theorem dL_law_260 : decode cL_law 260 = .ok (.iload 4, 2) := by decide +kernel
theorem dL_law_262 : decode cL_law 262 = .ok (.iconst 1, 1) := by decide +kernel
theorem dL_law_263 : decode cL_law 263 = .ok (.iadd, 1) := by decide +kernel
theorem dL_law_264 : decode cL_law 264 = .ok (.iaload, 1) := by decide +kernel
theorem dL_law_265 : decode cL_law 265 = .ok (.aload_n 0, 1) := by decide +kernel
theorem dL_law_266 : decode cL_law 266 = .ok (.iload 4, 2) := by decide +kernel
theorem dL_law_268 : decode cL_law 268 = .ok (.iconst 2, 1) := by decide +kernel
theorem dL_law_269 : decode cL_law 269 = .ok (.iadd, 1) := by decide +kernel
theorem dL_law_270 : decode cL_law 270 = .ok (.iaload, 1) := by decide +kernel
theorem dL_law_271 : decode cL_law 271 = .ok (.aload_n 0, 1) := by decide +kernel
theorem dL_law_272 : decode cL_law 272 = .ok (.iload 4, 2) := by decide +kernel
theorem dL_law_274 : decode cL_law 274 = .ok (.iconst 3, 1) := by decide +kernel
theorem dL_law_275 : decode cL_law 275 = .ok (.iadd, 1) := by decide +kernel
theorem dL_law_276 : decode cL_law 276 = .ok (.iaload, 1) := by decide +kernel
theorem dL_law_277 : decode cL_law 277 = .ok (.aload_n 0, 1) := by decide +kernel
theorem dL_law_278 : decode cL_law 278 = .ok (.iload 4, 2) := by decide +kernel
theorem dL_law_280 : decode cL_law 280 = .ok (.iconst 4, 1) := by decide +kernel
theorem dL_law_281 : decode cL_law 281 = .ok (.iadd, 1) := by decide +kernel
theorem dL_law_282 : decode cL_law 282 = .ok (.iaload, 1) := by decide +kernel
theorem dL_law_283 : decode cL_law 283 = .ok (.invokevirtual 29, 3) := by decide +kernel
theorem dL_law_286 : decode cL_law 286 = .ok (.pop, 1) := by decide +kernel
theorem dL_law_287 : decode cL_law 287 = .ok (.aload_n 2, 1) := by decide +kernel
theorem dL_law_288 : decode cL_law 288 = .ok (.aload_n 0, 1) := by decide +kernel
theorem dL_law_289 : decode cL_law 289 = .ok (.iload 4, 2) := by decide +kernel
theorem dL_law_291 : decode cL_law 291 = .ok (.iconst 1, 1) := by decide +kernel
theorem dL_law_292 : decode cL_law 292 = .ok (.iadd, 1) := by decide +kernel
theorem dL_law_293 : decode cL_law 293 = .ok (.iaload, 1) := by decide +kernel
theorem dL_law_294 : decode cL_law 294 = .ok (.aload_n 0, 1) := by decide +kernel
theorem dL_law_295 : decode cL_law 295 = .ok (.iload 4, 2) := by decide +kernel
theorem dL_law_297 : decode cL_law 297 = .ok (.iconst 2, 1) := by decide +kernel
theorem dL_law_298 : decode cL_law 298 = .ok (.iadd, 1) := by decide +kernel
theorem dL_law_299 : decode cL_law 299 = .ok (.iaload, 1) := by decide +kernel
theorem dL_law_300 : decode cL_law 300 = .ok (.aload_n 0, 1) := by decide +kernel
theorem dL_law_301 : decode cL_law 301 = .ok (.iload 4, 2) := by decide +kernel
theorem dL_law_303 : decode cL_law 303 = .ok (.iconst 3, 1) := by decide +kernel
theorem dL_law_304 : decode cL_law 304 = .ok (.iadd, 1) := by decide +kernel
theorem dL_law_305 : decode cL_law 305 = .ok (.iaload, 1) := by decide +kernel
theorem dL_law_306 : decode cL_law 306 = .ok (.aload_n 0, 1) := by decide +kernel
theorem dL_law_307 : decode cL_law 307 = .ok (.iload 4, 2) := by decide +kernel
theorem dL_law_309 : decode cL_law 309 = .ok (.iconst 4, 1) := by decide +kernel
theorem dL_law_310 : decode cL_law 310 = .ok (.iadd, 1) := by decide +kernel
theorem dL_law_311 : decode cL_law 311 = .ok (.iaload, 1) := by decide +kernel
theorem dL_law_312 : decode cL_law 312 = .ok (.invokevirtual 33, 3) := by decide +kernel
theorem dL_law_315 : decode cL_law 315 = .ok (.pop, 1) := by decide +kernel
theorem dL_law_316 : decode cL_law 316 = .ok (.goto 633, 3) := by decide +kernel
theorem dL_law_319 : decode cL_law 319 = .ok (.aload_n 1, 1) := by decide +kernel
theorem dL_law_320 : decode cL_law 320 = .ok (.aload_n 0, 1) := by decide +kernel
theorem dL_law_321 : decode cL_law 321 = .ok (.iload 4, 2) := by decide +kernel
theorem dL_law_323 : decode cL_law 323 = .ok (.iconst 1, 1) := by decide +kernel
theorem dL_law_324 : decode cL_law 324 = .ok (.iadd, 1) := by decide +kernel
theorem dL_law_325 : decode cL_law 325 = .ok (.iaload, 1) := by decide +kernel
theorem dL_law_326 : decode cL_law 326 = .ok (.aload_n 0, 1) := by decide +kernel
theorem dL_law_327 : decode cL_law 327 = .ok (.iload 4, 2) := by decide +kernel
theorem dL_law_329 : decode cL_law 329 = .ok (.iconst 2, 1) := by decide +kernel
theorem dL_law_330 : decode cL_law 330 = .ok (.iadd, 1) := by decide +kernel
theorem dL_law_331 : decode cL_law 331 = .ok (.iaload, 1) := by decide +kernel
theorem dL_law_332 : decode cL_law 332 = .ok (.invokevirtual 34, 3) := by decide +kernel
theorem dL_law_335 : decode cL_law 335 = .ok (.pop, 1) := by decide +kernel
theorem dL_law_336 : decode cL_law 336 = .ok (.aload_n 2, 1) := by decide +kernel
theorem dL_law_337 : decode cL_law 337 = .ok (.aload_n 0, 1) := by decide +kernel
theorem dL_law_338 : decode cL_law 338 = .ok (.iload 4, 2) := by decide +kernel
theorem dL_law_340 : decode cL_law 340 = .ok (.iconst 1, 1) := by decide +kernel
theorem dL_law_341 : decode cL_law 341 = .ok (.iadd, 1) := by decide +kernel
theorem dL_law_342 : decode cL_law 342 = .ok (.iaload, 1) := by decide +kernel
theorem dL_law_343 : decode cL_law 343 = .ok (.aload_n 0, 1) := by decide +kernel
theorem dL_law_344 : decode cL_law 344 = .ok (.iload 4, 2) := by decide +kernel
theorem dL_law_346 : decode cL_law 346 = .ok (.iconst 2, 1) := by decide +kernel
theorem dL_law_347 : decode cL_law 347 = .ok (.iadd, 1) := by decide +kernel
theorem dL_law_348 : decode cL_law 348 = .ok (.iaload, 1) := by decide +kernel
theorem dL_law_349 : decode cL_law 349 = .ok (.invokevirtual 38, 3) := by decide +kernel
theorem dL_law_352 : decode cL_law 352 = .ok (.pop, 1) := by decide +kernel
theorem dL_law_353 : decode cL_law 353 = .ok (.goto 596, 3) := by decide +kernel
theorem dL_law_356 : decode cL_law 356 = .ok (.aload_n 1, 1) := by decide +kernel
theorem dL_law_357 : decode cL_law 357 = .ok (.aload_n 0, 1) := by decide +kernel
theorem dL_law_358 : decode cL_law 358 = .ok (.iload 4, 2) := by decide +kernel
theorem dL_law_360 : decode cL_law 360 = .ok (.iconst 1, 1) := by decide +kernel
theorem dL_law_361 : decode cL_law 361 = .ok (.iadd, 1) := by decide +kernel
theorem dL_law_362 : decode cL_law 362 = .ok (.iaload, 1) := by decide +kernel
theorem dL_law_363 : decode cL_law 363 = .ok (.aload_n 0, 1) := by decide +kernel
theorem dL_law_364 : decode cL_law 364 = .ok (.iload 4, 2) := by decide +kernel
theorem dL_law_366 : decode cL_law 366 = .ok (.iconst 2, 1) := by decide +kernel
theorem dL_law_367 : decode cL_law 367 = .ok (.iadd, 1) := by decide +kernel
theorem dL_law_368 : decode cL_law 368 = .ok (.iaload, 1) := by decide +kernel
theorem dL_law_369 : decode cL_law 369 = .ok (.invokevirtual 39, 3) := by decide +kernel
theorem dL_law_372 : decode cL_law 372 = .ok (.pop, 1) := by decide +kernel
theorem dL_law_373 : decode cL_law 373 = .ok (.aload_n 2, 1) := by decide +kernel
theorem dL_law_374 : decode cL_law 374 = .ok (.aload_n 0, 1) := by decide +kernel
theorem dL_law_375 : decode cL_law 375 = .ok (.iload 4, 2) := by decide +kernel
theorem dL_law_377 : decode cL_law 377 = .ok (.iconst 1, 1) := by decide +kernel
theorem dL_law_378 : decode cL_law 378 = .ok (.iadd, 1) := by decide +kernel
theorem dL_law_379 : decode cL_law 379 = .ok (.iaload, 1) := by decide +kernel
theorem dL_law_380 : decode cL_law 380 = .ok (.aload_n 0, 1) := by decide +kernel
theorem dL_law_381 : decode cL_law 381 = .ok (.iload 4, 2) := by decide +kernel
theorem dL_law_383 : decode cL_law 383 = .ok (.iconst 2, 1) := by decide +kernel
theorem dL_law_384 : decode cL_law 384 = .ok (.iadd, 1) := by decide +kernel
theorem dL_law_385 : decode cL_law 385 = .ok (.iaload, 1) := by decide +kernel
theorem dL_law_386 : decode cL_law 386 = .ok (.invokevirtual 42, 3) := by decide +kernel
theorem dL_law_389 : decode cL_law 389 = .ok (.pop, 1) := by decide +kernel
theorem dL_law_390 : decode cL_law 390 = .ok (.goto 559, 3) := by decide +kernel
theorem dL_law_393 : decode cL_law 393 = .ok (.aload_n 1, 1) := by decide +kernel
theorem dL_law_394 : decode cL_law 394 = .ok (.aload_n 0, 1) := by decide +kernel
theorem dL_law_395 : decode cL_law 395 = .ok (.iload 4, 2) := by decide +kernel
theorem dL_law_397 : decode cL_law 397 = .ok (.iconst 1, 1) := by decide +kernel
theorem dL_law_398 : decode cL_law 398 = .ok (.iadd, 1) := by decide +kernel
theorem dL_law_399 : decode cL_law 399 = .ok (.iaload, 1) := by decide +kernel
theorem dL_law_400 : decode cL_law 400 = .ok (.aload_n 0, 1) := by decide +kernel
theorem dL_law_401 : decode cL_law 401 = .ok (.iload 4, 2) := by decide +kernel
theorem dL_law_403 : decode cL_law 403 = .ok (.iconst 2, 1) := by decide +kernel
theorem dL_law_404 : decode cL_law 404 = .ok (.iadd, 1) := by decide +kernel
theorem dL_law_405 : decode cL_law 405 = .ok (.iaload, 1) := by decide +kernel
theorem dL_law_406 : decode cL_law 406 = .ok (.aload_n 0, 1) := by decide +kernel
theorem dL_law_407 : decode cL_law 407 = .ok (.iload 4, 2) := by decide +kernel
theorem dL_law_409 : decode cL_law 409 = .ok (.iconst 3, 1) := by decide +kernel
theorem dL_law_410 : decode cL_law 410 = .ok (.iadd, 1) := by decide +kernel
theorem dL_law_411 : decode cL_law 411 = .ok (.iaload, 1) := by decide +kernel
theorem dL_law_412 : decode cL_law 412 = .ok (.invokevirtual 43, 3) := by decide +kernel
theorem dL_law_415 : decode cL_law 415 = .ok (.pop, 1) := by decide +kernel
theorem dL_law_416 : decode cL_law 416 = .ok (.aload_n 2, 1) := by decide +kernel
theorem dL_law_417 : decode cL_law 417 = .ok (.aload_n 0, 1) := by decide +kernel
theorem dL_law_418 : decode cL_law 418 = .ok (.iload 4, 2) := by decide +kernel
theorem dL_law_420 : decode cL_law 420 = .ok (.iconst 1, 1) := by decide +kernel
theorem dL_law_421 : decode cL_law 421 = .ok (.iadd, 1) := by decide +kernel
theorem dL_law_422 : decode cL_law 422 = .ok (.iaload, 1) := by decide +kernel
theorem dL_law_423 : decode cL_law 423 = .ok (.aload_n 0, 1) := by decide +kernel
theorem dL_law_424 : decode cL_law 424 = .ok (.iload 4, 2) := by decide +kernel
theorem dL_law_426 : decode cL_law 426 = .ok (.iconst 2, 1) := by decide +kernel
theorem dL_law_427 : decode cL_law 427 = .ok (.iadd, 1) := by decide +kernel
theorem dL_law_428 : decode cL_law 428 = .ok (.iaload, 1) := by decide +kernel
theorem dL_law_429 : decode cL_law 429 = .ok (.aload_n 0, 1) := by decide +kernel
theorem dL_law_430 : decode cL_law 430 = .ok (.iload 4, 2) := by decide +kernel
theorem dL_law_432 : decode cL_law 432 = .ok (.iconst 3, 1) := by decide +kernel
theorem dL_law_433 : decode cL_law 433 = .ok (.iadd, 1) := by decide +kernel
theorem dL_law_434 : decode cL_law 434 = .ok (.iaload, 1) := by decide +kernel
theorem dL_law_435 : decode cL_law 435 = .ok (.invokevirtual 46, 3) := by decide +kernel
theorem dL_law_438 : decode cL_law 438 = .ok (.pop, 1) := by decide +kernel
theorem dL_law_439 : decode cL_law 439 = .ok (.goto 510, 3) := by decide +kernel
theorem dL_law_442 : decode cL_law 442 = .ok (.aload_n 1, 1) := by decide +kernel
theorem dL_law_443 : decode cL_law 443 = .ok (.aload_n 0, 1) := by decide +kernel
theorem dL_law_444 : decode cL_law 444 = .ok (.iload 4, 2) := by decide +kernel
theorem dL_law_446 : decode cL_law 446 = .ok (.iconst 1, 1) := by decide +kernel
theorem dL_law_447 : decode cL_law 447 = .ok (.iadd, 1) := by decide +kernel
theorem dL_law_448 : decode cL_law 448 = .ok (.iaload, 1) := by decide +kernel
theorem dL_law_449 : decode cL_law 449 = .ok (.aload_n 0, 1) := by decide +kernel
theorem dL_law_450 : decode cL_law 450 = .ok (.iload 4, 2) := by decide +kernel
theorem dL_law_452 : decode cL_law 452 = .ok (.iconst 2, 1) := by decide +kernel
theorem dL_law_453 : decode cL_law 453 = .ok (.iadd, 1) := by decide +kernel
theorem dL_law_454 : decode cL_law 454 = .ok (.iaload, 1) := by decide +kernel
theorem dL_law_455 : decode cL_law 455 = .ok (.aload_n 0, 1) := by decide +kernel
theorem dL_law_456 : decode cL_law 456 = .ok (.iload 4, 2) := by decide +kernel
theorem dL_law_458 : decode cL_law 458 = .ok (.iconst 3, 1) := by decide +kernel
theorem dL_law_459 : decode cL_law 459 = .ok (.iadd, 1) := by decide +kernel
theorem dL_law_460 : decode cL_law 460 = .ok (.iaload, 1) := by decide +kernel
theorem dL_law_461 : decode cL_law 461 = .ok (.invokevirtual 47, 3) := by decide +kernel
theorem dL_law_464 : decode cL_law 464 = .ok (.pop, 1) := by decide +kernel
theorem dL_law_465 : decode cL_law 465 = .ok (.aload_n 2, 1) := by decide +kernel
theorem dL_law_466 : decode cL_law 466 = .ok (.aload_n 0, 1) := by decide +kernel
theorem dL_law_467 : decode cL_law 467 = .ok (.iload 4, 2) := by decide +kernel
theorem dL_law_469 : decode cL_law 469 = .ok (.iconst 1, 1) := by decide +kernel
theorem dL_law_470 : decode cL_law 470 = .ok (.iadd, 1) := by decide +kernel
theorem dL_law_471 : decode cL_law 471 = .ok (.iaload, 1) := by decide +kernel
theorem dL_law_472 : decode cL_law 472 = .ok (.aload_n 0, 1) := by decide +kernel
theorem dL_law_473 : decode cL_law 473 = .ok (.iload 4, 2) := by decide +kernel
theorem dL_law_475 : decode cL_law 475 = .ok (.iconst 2, 1) := by decide +kernel
theorem dL_law_476 : decode cL_law 476 = .ok (.iadd, 1) := by decide +kernel
theorem dL_law_477 : decode cL_law 477 = .ok (.iaload, 1) := by decide +kernel
theorem dL_law_478 : decode cL_law 478 = .ok (.aload_n 0, 1) := by decide +kernel
theorem dL_law_479 : decode cL_law 479 = .ok (.iload 4, 2) := by decide +kernel
theorem dL_law_481 : decode cL_law 481 = .ok (.iconst 3, 1) := by decide +kernel
theorem dL_law_482 : decode cL_law 482 = .ok (.iadd, 1) := by decide +kernel
theorem dL_law_483 : decode cL_law 483 = .ok (.iaload, 1) := by decide +kernel
theorem dL_law_484 : decode cL_law 484 = .ok (.invokevirtual 50, 3) := by decide +kernel
theorem dL_law_487 : decode cL_law 487 = .ok (.pop, 1) := by decide +kernel
theorem dL_law_488 : decode cL_law 488 = .ok (.goto 461, 3) := by decide +kernel
theorem dL_law_491 : decode cL_law 491 = .ok (.aload_n 1, 1) := by decide +kernel
theorem dL_law_492 : decode cL_law 492 = .ok (.aload_n 0, 1) := by decide +kernel
theorem dL_law_493 : decode cL_law 493 = .ok (.iload 4, 2) := by decide +kernel
theorem dL_law_495 : decode cL_law 495 = .ok (.iconst 1, 1) := by decide +kernel
theorem dL_law_496 : decode cL_law 496 = .ok (.iadd, 1) := by decide +kernel
theorem dL_law_497 : decode cL_law 497 = .ok (.iaload, 1) := by decide +kernel
theorem dL_law_498 : decode cL_law 498 = .ok (.aload_n 0, 1) := by decide +kernel
theorem dL_law_499 : decode cL_law 499 = .ok (.iload 4, 2) := by decide +kernel
theorem dL_law_501 : decode cL_law 501 = .ok (.iconst 2, 1) := by decide +kernel
theorem dL_law_502 : decode cL_law 502 = .ok (.iadd, 1) := by decide +kernel
theorem dL_law_503 : decode cL_law 503 = .ok (.iaload, 1) := by decide +kernel
theorem dL_law_504 : decode cL_law 504 = .ok (.aload_n 0, 1) := by decide +kernel
theorem dL_law_505 : decode cL_law 505 = .ok (.iload 4, 2) := by decide +kernel
theorem dL_law_507 : decode cL_law 507 = .ok (.iconst 3, 1) := by decide +kernel
theorem dL_law_508 : decode cL_law 508 = .ok (.iadd, 1) := by decide +kernel
theorem dL_law_509 : decode cL_law 509 = .ok (.iaload, 1) := by decide +kernel
theorem dL_law_510 : decode cL_law 510 = .ok (.invokevirtual 51, 3) := by decide +kernel
theorem dL_law_513 : decode cL_law 513 = .ok (.pop, 1) := by decide +kernel
theorem dL_law_514 : decode cL_law 514 = .ok (.aload_n 2, 1) := by decide +kernel
theorem dL_law_515 : decode cL_law 515 = .ok (.aload_n 0, 1) := by decide +kernel
theorem dL_law_516 : decode cL_law 516 = .ok (.iload 4, 2) := by decide +kernel
theorem dL_law_518 : decode cL_law 518 = .ok (.iconst 1, 1) := by decide +kernel
theorem dL_law_519 : decode cL_law 519 = .ok (.iadd, 1) := by decide +kernel
theorem dL_law_520 : decode cL_law 520 = .ok (.iaload, 1) := by decide +kernel
theorem dL_law_521 : decode cL_law 521 = .ok (.aload_n 0, 1) := by decide +kernel
theorem dL_law_522 : decode cL_law 522 = .ok (.iload 4, 2) := by decide +kernel
theorem dL_law_524 : decode cL_law 524 = .ok (.iconst 2, 1) := by decide +kernel
theorem dL_law_525 : decode cL_law 525 = .ok (.iadd, 1) := by decide +kernel
theorem dL_law_526 : decode cL_law 526 = .ok (.iaload, 1) := by decide +kernel
theorem dL_law_527 : decode cL_law 527 = .ok (.aload_n 0, 1) := by decide +kernel
theorem dL_law_528 : decode cL_law 528 = .ok (.iload 4, 2) := by decide +kernel
theorem dL_law_530 : decode cL_law 530 = .ok (.iconst 3, 1) := by decide +kernel
theorem dL_law_531 : decode cL_law 531 = .ok (.iadd, 1) := by decide +kernel
theorem dL_law_532 : decode cL_law 532 = .ok (.iaload, 1) := by decide +kernel
theorem dL_law_533 : decode cL_law 533 = .ok (.invokevirtual 54, 3) := by decide +kernel
theorem dL_law_536 : decode cL_law 536 = .ok (.pop, 1) := by decide +kernel
theorem dL_law_537 : decode cL_law 537 = .ok (.goto 412, 3) := by decide +kernel
theorem dL_law_540 : decode cL_law 540 = .ok (.aload_n 1, 1) := by decide +kernel
theorem dL_law_541 : decode cL_law 541 = .ok (.aload_n 0, 1) := by decide +kernel
theorem dL_law_542 : decode cL_law 542 = .ok (.iload 4, 2) := by decide +kernel
theorem dL_law_544 : decode cL_law 544 = .ok (.iconst 1, 1) := by decide +kernel
theorem dL_law_545 : decode cL_law 545 = .ok (.iadd, 1) := by decide +kernel
theorem dL_law_546 : decode cL_law 546 = .ok (.iaload, 1) := by decide +kernel
theorem dL_law_547 : decode cL_law 547 = .ok (.aload_n 0, 1) := by decide +kernel
theorem dL_law_548 : decode cL_law 548 = .ok (.iload 4, 2) := by decide +kernel
theorem dL_law_550 : decode cL_law 550 = .ok (.iconst 2, 1) := by decide +kernel
theorem dL_law_551 : decode cL_law 551 = .ok (.iadd, 1) := by decide +kernel
theorem dL_law_552 : decode cL_law 552 = .ok (.iaload, 1) := by decide +kernel
theorem dL_law_553 : decode cL_law 553 = .ok (.aload_n 0, 1) := by decide +kernel
theorem dL_law_554 : decode cL_law 554 = .ok (.iload 4, 2) := by decide +kernel
theorem dL_law_556 : decode cL_law 556 = .ok (.iconst 3, 1) := by decide +kernel
theorem dL_law_557 : decode cL_law 557 = .ok (.iadd, 1) := by decide +kernel
theorem dL_law_558 : decode cL_law 558 = .ok (.iaload, 1) := by decide +kernel
theorem dL_law_559 : decode cL_law 559 = .ok (.invokevirtual 55, 3) := by decide +kernel
theorem dL_law_562 : decode cL_law 562 = .ok (.pop, 1) := by decide +kernel
theorem dL_law_563 : decode cL_law 563 = .ok (.aload_n 2, 1) := by decide +kernel
theorem dL_law_564 : decode cL_law 564 = .ok (.aload_n 0, 1) := by decide +kernel
theorem dL_law_565 : decode cL_law 565 = .ok (.iload 4, 2) := by decide +kernel
theorem dL_law_567 : decode cL_law 567 = .ok (.iconst 1, 1) := by decide +kernel
theorem dL_law_568 : decode cL_law 568 = .ok (.iadd, 1) := by decide +kernel
theorem dL_law_569 : decode cL_law 569 = .ok (.iaload, 1) := by decide +kernel
theorem dL_law_570 : decode cL_law 570 = .ok (.aload_n 0, 1) := by decide +kernel
theorem dL_law_571 : decode cL_law 571 = .ok (.iload 4, 2) := by decide +kernel
theorem dL_law_573 : decode cL_law 573 = .ok (.iconst 2, 1) := by decide +kernel
theorem dL_law_574 : decode cL_law 574 = .ok (.iadd, 1) := by decide +kernel
theorem dL_law_575 : decode cL_law 575 = .ok (.iaload, 1) := by decide +kernel
theorem dL_law_576 : decode cL_law 576 = .ok (.aload_n 0, 1) := by decide +kernel
theorem dL_law_577 : decode cL_law 577 = .ok (.iload 4, 2) := by decide +kernel
theorem dL_law_579 : decode cL_law 579 = .ok (.iconst 3, 1) := by decide +kernel
theorem dL_law_580 : decode cL_law 580 = .ok (.iadd, 1) := by decide +kernel
theorem dL_law_581 : decode cL_law 581 = .ok (.iaload, 1) := by decide +kernel
theorem dL_law_582 : decode cL_law 582 = .ok (.invokevirtual 58, 3) := by decide +kernel
theorem dL_law_585 : decode cL_law 585 = .ok (.pop, 1) := by decide +kernel
theorem dL_law_586 : decode cL_law 586 = .ok (.goto 363, 3) := by decide +kernel
theorem dL_law_589 : decode cL_law 589 = .ok (.aload_n 1, 1) := by decide +kernel
theorem dL_law_590 : decode cL_law 590 = .ok (.aload_n 0, 1) := by decide +kernel
theorem dL_law_591 : decode cL_law 591 = .ok (.iload 4, 2) := by decide +kernel
theorem dL_law_593 : decode cL_law 593 = .ok (.iconst 1, 1) := by decide +kernel
theorem dL_law_594 : decode cL_law 594 = .ok (.iadd, 1) := by decide +kernel
theorem dL_law_595 : decode cL_law 595 = .ok (.iaload, 1) := by decide +kernel
theorem dL_law_596 : decode cL_law 596 = .ok (.invokevirtual 59, 3) := by decide +kernel
theorem dL_law_599 : decode cL_law 599 = .ok (.pop, 1) := by decide +kernel
theorem dL_law_600 : decode cL_law 600 = .ok (.aload_n 2, 1) := by decide +kernel
theorem dL_law_601 : decode cL_law 601 = .ok (.aload_n 0, 1) := by decide +kernel
theorem dL_law_602 : decode cL_law 602 = .ok (.iload 4, 2) := by decide +kernel
theorem dL_law_604 : decode cL_law 604 = .ok (.iconst 1, 1) := by decide +kernel
theorem dL_law_605 : decode cL_law 605 = .ok (.iadd, 1) := by decide +kernel
theorem dL_law_606 : decode cL_law 606 = .ok (.iaload, 1) := by decide +kernel
theorem dL_law_607 : decode cL_law 607 = .ok (.invokevirtual 63, 3) := by decide +kernel
theorem dL_law_610 : decode cL_law 610 = .ok (.pop, 1) := by decide +kernel
theorem dL_law_611 : decode cL_law 611 = .ok (.goto 338, 3) := by decide +kernel
theorem dL_law_614 : decode cL_law 614 = .ok (.aload_n 1, 1) := by decide +kernel
theorem dL_law_615 : decode cL_law 615 = .ok (.aload_n 0, 1) := by decide +kernel
theorem dL_law_616 : decode cL_law 616 = .ok (.iload 4, 2) := by decide +kernel
theorem dL_law_618 : decode cL_law 618 = .ok (.iconst 1, 1) := by decide +kernel
theorem dL_law_619 : decode cL_law 619 = .ok (.iadd, 1) := by decide +kernel
theorem dL_law_620 : decode cL_law 620 = .ok (.iaload, 1) := by decide +kernel
theorem dL_law_621 : decode cL_law 621 = .ok (.aload_n 0, 1) := by decide +kernel
theorem dL_law_622 : decode cL_law 622 = .ok (.iload 4, 2) := by decide +kernel
theorem dL_law_624 : decode cL_law 624 = .ok (.iconst 2, 1) := by decide +kernel
theorem dL_law_625 : decode cL_law 625 = .ok (.iadd, 1) := by decide +kernel
theorem dL_law_626 : decode cL_law 626 = .ok (.iaload, 1) := by decide +kernel
theorem dL_law_627 : decode cL_law 627 = .ok (.aload_n 3, 1) := by decide +kernel
theorem dL_law_628 : decode cL_law 628 = .ok (.invokestatic 64, 3) := by decide +kernel
theorem dL_law_631 : decode cL_law 631 = .ok (.istore 5, 2) := by decide +kernel
theorem dL_law_633 : decode cL_law 633 = .ok (.aload_n 2, 1) := by decide +kernel
theorem dL_law_634 : decode cL_law 634 = .ok (.aload_n 0, 1) := by decide +kernel
theorem dL_law_635 : decode cL_law 635 = .ok (.iload 4, 2) := by decide +kernel
theorem dL_law_637 : decode cL_law 637 = .ok (.iconst 1, 1) := by decide +kernel
theorem dL_law_638 : decode cL_law 638 = .ok (.iadd, 1) := by decide +kernel
theorem dL_law_639 : decode cL_law 639 = .ok (.iaload, 1) := by decide +kernel
theorem dL_law_640 : decode cL_law 640 = .ok (.aload_n 0, 1) := by decide +kernel
theorem dL_law_641 : decode cL_law 641 = .ok (.iload 4, 2) := by decide +kernel
theorem dL_law_643 : decode cL_law 643 = .ok (.iconst 2, 1) := by decide +kernel
theorem dL_law_644 : decode cL_law 644 = .ok (.iadd, 1) := by decide +kernel
theorem dL_law_645 : decode cL_law 645 = .ok (.iaload, 1) := by decide +kernel
theorem dL_law_646 : decode cL_law 646 = .ok (.invokevirtual 69, 3) := by decide +kernel
theorem dL_law_649 : decode cL_law 649 = .ok (.istore 6, 2) := by decide +kernel
theorem dL_law_651 : decode cL_law 651 = .ok (.goto 298, 3) := by decide +kernel
theorem dL_law_654 : decode cL_law 654 = .ok (.aload_n 1, 1) := by decide +kernel
theorem dL_law_655 : decode cL_law 655 = .ok (.aload_n 0, 1) := by decide +kernel
theorem dL_law_656 : decode cL_law 656 = .ok (.iload 4, 2) := by decide +kernel
theorem dL_law_658 : decode cL_law 658 = .ok (.iconst 1, 1) := by decide +kernel
theorem dL_law_659 : decode cL_law 659 = .ok (.iadd, 1) := by decide +kernel
theorem dL_law_660 : decode cL_law 660 = .ok (.iaload, 1) := by decide +kernel
theorem dL_law_661 : decode cL_law 661 = .ok (.invokevirtual 70, 3) := by decide +kernel
theorem dL_law_664 : decode cL_law 664 = .ok (.aload_n 2, 1) := by decide +kernel
theorem dL_law_665 : decode cL_law 665 = .ok (.aload_n 0, 1) := by decide +kernel
theorem dL_law_666 : decode cL_law 666 = .ok (.iload 4, 2) := by decide +kernel
theorem dL_law_668 : decode cL_law 668 = .ok (.iconst 1, 1) := by decide +kernel
theorem dL_law_669 : decode cL_law 669 = .ok (.iadd, 1) := by decide +kernel
theorem dL_law_670 : decode cL_law 670 = .ok (.iaload, 1) := by decide +kernel
theorem dL_law_671 : decode cL_law 671 = .ok (.invokevirtual 73, 3) := by decide +kernel
theorem dL_law_674 : decode cL_law 674 = .ok (.if_icmp .eq 275, 3) := by decide +kernel
theorem dL_law_677 : decode cL_law 677 = .ok (.iconst 0, 1) := by decide +kernel
theorem dL_law_678 : decode cL_law 678 = .ok (.ireturn, 1) := by decide +kernel
theorem dL_law_679 : decode cL_law 679 = .ok (.aload_n 1, 1) := by decide +kernel
theorem dL_law_680 : decode cL_law 680 = .ok (.aload_n 0, 1) := by decide +kernel
theorem dL_law_681 : decode cL_law 681 = .ok (.iload 4, 2) := by decide +kernel
theorem dL_law_683 : decode cL_law 683 = .ok (.iconst 1, 1) := by decide +kernel
theorem dL_law_684 : decode cL_law 684 = .ok (.iadd, 1) := by decide +kernel
theorem dL_law_685 : decode cL_law 685 = .ok (.iaload, 1) := by decide +kernel
theorem dL_law_686 : decode cL_law 686 = .ok (.invokevirtual 74, 3) := by decide +kernel
theorem dL_law_689 : decode cL_law 689 = .ok (.pop, 1) := by decide +kernel
theorem dL_law_690 : decode cL_law 690 = .ok (.aload_n 2, 1) := by decide +kernel
theorem dL_law_691 : decode cL_law 691 = .ok (.aload_n 0, 1) := by decide +kernel
theorem dL_law_692 : decode cL_law 692 = .ok (.iload 4, 2) := by decide +kernel
theorem dL_law_694 : decode cL_law 694 = .ok (.iconst 1, 1) := by decide +kernel
theorem dL_law_695 : decode cL_law 695 = .ok (.iadd, 1) := by decide +kernel
theorem dL_law_696 : decode cL_law 696 = .ok (.iaload, 1) := by decide +kernel
theorem dL_law_697 : decode cL_law 697 = .ok (.invokevirtual 77, 3) := by decide +kernel
theorem dL_law_700 : decode cL_law 700 = .ok (.pop, 1) := by decide +kernel
theorem dL_law_701 : decode cL_law 701 = .ok (.goto 248, 3) := by decide +kernel
theorem dL_law_704 : decode cL_law 704 = .ok (.aload_n 1, 1) := by decide +kernel
theorem dL_law_705 : decode cL_law 705 = .ok (.aload_n 0, 1) := by decide +kernel
theorem dL_law_706 : decode cL_law 706 = .ok (.iload 4, 2) := by decide +kernel
theorem dL_law_708 : decode cL_law 708 = .ok (.iconst 1, 1) := by decide +kernel
theorem dL_law_709 : decode cL_law 709 = .ok (.iadd, 1) := by decide +kernel
theorem dL_law_710 : decode cL_law 710 = .ok (.iaload, 1) := by decide +kernel
theorem dL_law_711 : decode cL_law 711 = .ok (.aload_n 0, 1) := by decide +kernel
theorem dL_law_712 : decode cL_law 712 = .ok (.iload 4, 2) := by decide +kernel
theorem dL_law_714 : decode cL_law 714 = .ok (.iconst 2, 1) := by decide +kernel
theorem dL_law_715 : decode cL_law 715 = .ok (.iadd, 1) := by decide +kernel
theorem dL_law_716 : decode cL_law 716 = .ok (.iaload, 1) := by decide +kernel
theorem dL_law_717 : decode cL_law 717 = .ok (.invokevirtual 78, 3) := by decide +kernel
theorem dL_law_720 : decode cL_law 720 = .ok (.pop, 1) := by decide +kernel
theorem dL_law_721 : decode cL_law 721 = .ok (.aload_n 2, 1) := by decide +kernel
theorem dL_law_722 : decode cL_law 722 = .ok (.aload_n 0, 1) := by decide +kernel
theorem dL_law_723 : decode cL_law 723 = .ok (.iload 4, 2) := by decide +kernel
theorem dL_law_725 : decode cL_law 725 = .ok (.iconst 1, 1) := by decide +kernel
theorem dL_law_726 : decode cL_law 726 = .ok (.iadd, 1) := by decide +kernel
theorem dL_law_727 : decode cL_law 727 = .ok (.iaload, 1) := by decide +kernel
theorem dL_law_728 : decode cL_law 728 = .ok (.aload_n 0, 1) := by decide +kernel
theorem dL_law_729 : decode cL_law 729 = .ok (.iload 4, 2) := by decide +kernel
theorem dL_law_731 : decode cL_law 731 = .ok (.iconst 2, 1) := by decide +kernel
theorem dL_law_732 : decode cL_law 732 = .ok (.iadd, 1) := by decide +kernel
theorem dL_law_733 : decode cL_law 733 = .ok (.iaload, 1) := by decide +kernel
theorem dL_law_734 : decode cL_law 734 = .ok (.invokevirtual 81, 3) := by decide +kernel
theorem dL_law_737 : decode cL_law 737 = .ok (.pop, 1) := by decide +kernel
theorem dL_law_738 : decode cL_law 738 = .ok (.goto 211, 3) := by decide +kernel
theorem dL_law_741 : decode cL_law 741 = .ok (.aload_n 1, 1) := by decide +kernel
theorem dL_law_742 : decode cL_law 742 = .ok (.aload_n 0, 1) := by decide +kernel
theorem dL_law_743 : decode cL_law 743 = .ok (.iload 4, 2) := by decide +kernel
theorem dL_law_745 : decode cL_law 745 = .ok (.iconst 1, 1) := by decide +kernel
theorem dL_law_746 : decode cL_law 746 = .ok (.iadd, 1) := by decide +kernel
theorem dL_law_747 : decode cL_law 747 = .ok (.iaload, 1) := by decide +kernel
theorem dL_law_748 : decode cL_law 748 = .ok (.aload_n 0, 1) := by decide +kernel
theorem dL_law_749 : decode cL_law 749 = .ok (.iload 4, 2) := by decide +kernel
theorem dL_law_751 : decode cL_law 751 = .ok (.iconst 2, 1) := by decide +kernel
theorem dL_law_752 : decode cL_law 752 = .ok (.iadd, 1) := by decide +kernel
theorem dL_law_753 : decode cL_law 753 = .ok (.iaload, 1) := by decide +kernel
theorem dL_law_754 : decode cL_law 754 = .ok (.aload_n 0, 1) := by decide +kernel
theorem dL_law_755 : decode cL_law 755 = .ok (.iload 4, 2) := by decide +kernel
theorem dL_law_757 : decode cL_law 757 = .ok (.iconst 3, 1) := by decide +kernel
theorem dL_law_758 : decode cL_law 758 = .ok (.iadd, 1) := by decide +kernel
theorem dL_law_759 : decode cL_law 759 = .ok (.iaload, 1) := by decide +kernel
theorem dL_law_760 : decode cL_law 760 = .ok (.invokevirtual 82, 3) := by decide +kernel
theorem dL_law_763 : decode cL_law 763 = .ok (.pop, 1) := by decide +kernel
theorem dL_law_764 : decode cL_law 764 = .ok (.aload_n 2, 1) := by decide +kernel
theorem dL_law_765 : decode cL_law 765 = .ok (.aload_n 0, 1) := by decide +kernel
theorem dL_law_766 : decode cL_law 766 = .ok (.iload 4, 2) := by decide +kernel
theorem dL_law_768 : decode cL_law 768 = .ok (.iconst 1, 1) := by decide +kernel
theorem dL_law_769 : decode cL_law 769 = .ok (.iadd, 1) := by decide +kernel
theorem dL_law_770 : decode cL_law 770 = .ok (.iaload, 1) := by decide +kernel
theorem dL_law_771 : decode cL_law 771 = .ok (.aload_n 0, 1) := by decide +kernel
theorem dL_law_772 : decode cL_law 772 = .ok (.iload 4, 2) := by decide +kernel
theorem dL_law_774 : decode cL_law 774 = .ok (.iconst 2, 1) := by decide +kernel
theorem dL_law_775 : decode cL_law 775 = .ok (.iadd, 1) := by decide +kernel
theorem dL_law_776 : decode cL_law 776 = .ok (.iaload, 1) := by decide +kernel
theorem dL_law_777 : decode cL_law 777 = .ok (.aload_n 0, 1) := by decide +kernel
theorem dL_law_778 : decode cL_law 778 = .ok (.iload 4, 2) := by decide +kernel
theorem dL_law_780 : decode cL_law 780 = .ok (.iconst 3, 1) := by decide +kernel
theorem dL_law_781 : decode cL_law 781 = .ok (.iadd, 1) := by decide +kernel
theorem dL_law_782 : decode cL_law 782 = .ok (.iaload, 1) := by decide +kernel
theorem dL_law_783 : decode cL_law 783 = .ok (.invokevirtual 86, 3) := by decide +kernel
theorem dL_law_786 : decode cL_law 786 = .ok (.pop, 1) := by decide +kernel
theorem dL_law_787 : decode cL_law 787 = .ok (.goto 162, 3) := by decide +kernel
theorem dL_law_790 : decode cL_law 790 = .ok (.aload_n 1, 1) := by decide +kernel
theorem dL_law_791 : decode cL_law 791 = .ok (.aload_n 0, 1) := by decide +kernel
theorem dL_law_792 : decode cL_law 792 = .ok (.iload 4, 2) := by decide +kernel
theorem dL_law_794 : decode cL_law 794 = .ok (.iconst 1, 1) := by decide +kernel
theorem dL_law_795 : decode cL_law 795 = .ok (.iadd, 1) := by decide +kernel
theorem dL_law_796 : decode cL_law 796 = .ok (.iaload, 1) := by decide +kernel
theorem dL_law_797 : decode cL_law 797 = .ok (.aload_n 0, 1) := by decide +kernel
theorem dL_law_798 : decode cL_law 798 = .ok (.iload 4, 2) := by decide +kernel
theorem dL_law_800 : decode cL_law 800 = .ok (.iconst 2, 1) := by decide +kernel
theorem dL_law_801 : decode cL_law 801 = .ok (.iadd, 1) := by decide +kernel
theorem dL_law_802 : decode cL_law 802 = .ok (.iaload, 1) := by decide +kernel
theorem dL_law_803 : decode cL_law 803 = .ok (.aload_n 0, 1) := by decide +kernel
theorem dL_law_804 : decode cL_law 804 = .ok (.iload 4, 2) := by decide +kernel
theorem dL_law_806 : decode cL_law 806 = .ok (.iconst 3, 1) := by decide +kernel
theorem dL_law_807 : decode cL_law 807 = .ok (.iadd, 1) := by decide +kernel
theorem dL_law_808 : decode cL_law 808 = .ok (.iaload, 1) := by decide +kernel
theorem dL_law_809 : decode cL_law 809 = .ok (.invokevirtual 87, 3) := by decide +kernel
theorem dL_law_812 : decode cL_law 812 = .ok (.pop, 1) := by decide +kernel
theorem dL_law_813 : decode cL_law 813 = .ok (.aload_n 2, 1) := by decide +kernel
theorem dL_law_814 : decode cL_law 814 = .ok (.aload_n 0, 1) := by decide +kernel
theorem dL_law_815 : decode cL_law 815 = .ok (.iload 4, 2) := by decide +kernel
theorem dL_law_817 : decode cL_law 817 = .ok (.iconst 1, 1) := by decide +kernel
theorem dL_law_818 : decode cL_law 818 = .ok (.iadd, 1) := by decide +kernel
theorem dL_law_819 : decode cL_law 819 = .ok (.iaload, 1) := by decide +kernel
theorem dL_law_820 : decode cL_law 820 = .ok (.aload_n 0, 1) := by decide +kernel
theorem dL_law_821 : decode cL_law 821 = .ok (.iload 4, 2) := by decide +kernel
theorem dL_law_823 : decode cL_law 823 = .ok (.iconst 2, 1) := by decide +kernel
theorem dL_law_824 : decode cL_law 824 = .ok (.iadd, 1) := by decide +kernel
theorem dL_law_825 : decode cL_law 825 = .ok (.iaload, 1) := by decide +kernel
theorem dL_law_826 : decode cL_law 826 = .ok (.aload_n 0, 1) := by decide +kernel
theorem dL_law_827 : decode cL_law 827 = .ok (.iload 4, 2) := by decide +kernel
theorem dL_law_829 : decode cL_law 829 = .ok (.iconst 3, 1) := by decide +kernel
theorem dL_law_830 : decode cL_law 830 = .ok (.iadd, 1) := by decide +kernel
theorem dL_law_831 : decode cL_law 831 = .ok (.iaload, 1) := by decide +kernel
theorem dL_law_832 : decode cL_law 832 = .ok (.invokevirtual 90, 3) := by decide +kernel
theorem dL_law_835 : decode cL_law 835 = .ok (.pop, 1) := by decide +kernel
theorem dL_law_836 : decode cL_law 836 = .ok (.goto 113, 3) := by decide +kernel
theorem dL_law_839 : decode cL_law 839 = .ok (.aload_n 1, 1) := by decide +kernel
theorem dL_law_840 : decode cL_law 840 = .ok (.invokevirtual 91, 3) := by decide +kernel
theorem dL_law_843 : decode cL_law 843 = .ok (.aload_n 2, 1) := by decide +kernel
theorem dL_law_844 : decode cL_law 844 = .ok (.invokevirtual 94, 3) := by decide +kernel
theorem dL_law_847 : decode cL_law 847 = .ok (.goto 102, 3) := by decide +kernel
theorem dL_law_850 : decode cL_law 850 = .ok (.aload_n 1, 1) := by decide +kernel
theorem dL_law_851 : decode cL_law 851 = .ok (.aload_n 0, 1) := by decide +kernel
theorem dL_law_852 : decode cL_law 852 = .ok (.iload 4, 2) := by decide +kernel
theorem dL_law_854 : decode cL_law 854 = .ok (.iconst 1, 1) := by decide +kernel
theorem dL_law_855 : decode cL_law 855 = .ok (.iadd, 1) := by decide +kernel
theorem dL_law_856 : decode cL_law 856 = .ok (.iaload, 1) := by decide +kernel
theorem dL_law_857 : decode cL_law 857 = .ok (.aload_n 0, 1) := by decide +kernel
theorem dL_law_858 : decode cL_law 858 = .ok (.iload 4, 2) := by decide +kernel
theorem dL_law_860 : decode cL_law 860 = .ok (.iconst 2, 1) := by decide +kernel
theorem dL_law_861 : decode cL_law 861 = .ok (.iadd, 1) := by decide +kernel
theorem dL_law_862 : decode cL_law 862 = .ok (.iaload, 1) := by decide +kernel
theorem dL_law_863 : decode cL_law 863 = .ok (.invokevirtual 95, 3) := by decide +kernel
theorem dL_law_866 : decode cL_law 866 = .ok (.pop, 1) := by decide +kernel
theorem dL_law_867 : decode cL_law 867 = .ok (.aload_n 2, 1) := by decide +kernel
theorem dL_law_868 : decode cL_law 868 = .ok (.aload_n 0, 1) := by decide +kernel
theorem dL_law_869 : decode cL_law 869 = .ok (.iload 4, 2) := by decide +kernel
theorem dL_law_871 : decode cL_law 871 = .ok (.iconst 1, 1) := by decide +kernel
theorem dL_law_872 : decode cL_law 872 = .ok (.iadd, 1) := by decide +kernel
theorem dL_law_873 : decode cL_law 873 = .ok (.iaload, 1) := by decide +kernel
theorem dL_law_874 : decode cL_law 874 = .ok (.aload_n 0, 1) := by decide +kernel
theorem dL_law_875 : decode cL_law 875 = .ok (.iload 4, 2) := by decide +kernel
theorem dL_law_877 : decode cL_law 877 = .ok (.iconst 2, 1) := by decide +kernel
theorem dL_law_878 : decode cL_law 878 = .ok (.iadd, 1) := by decide +kernel
theorem dL_law_879 : decode cL_law 879 = .ok (.iaload, 1) := by decide +kernel
theorem dL_law_880 : decode cL_law 880 = .ok (.invokevirtual 98, 3) := by decide +kernel
theorem dL_law_883 : decode cL_law 883 = .ok (.pop, 1) := by decide +kernel
theorem dL_law_884 : decode cL_law 884 = .ok (.goto 65, 3) := by decide +kernel
theorem dL_law_887 : decode cL_law 887 = .ok (.aload_n 1, 1) := by decide +kernel
theorem dL_law_888 : decode cL_law 888 = .ok (.aload_n 0, 1) := by decide +kernel
theorem dL_law_889 : decode cL_law 889 = .ok (.iload 4, 2) := by decide +kernel
theorem dL_law_891 : decode cL_law 891 = .ok (.iconst 1, 1) := by decide +kernel
theorem dL_law_892 : decode cL_law 892 = .ok (.iadd, 1) := by decide +kernel
theorem dL_law_893 : decode cL_law 893 = .ok (.iaload, 1) := by decide +kernel
theorem dL_law_894 : decode cL_law 894 = .ok (.aload_n 0, 1) := by decide +kernel
theorem dL_law_895 : decode cL_law 895 = .ok (.iload 4, 2) := by decide +kernel
theorem dL_law_897 : decode cL_law 897 = .ok (.iconst 2, 1) := by decide +kernel
theorem dL_law_898 : decode cL_law 898 = .ok (.iadd, 1) := by decide +kernel
theorem dL_law_899 : decode cL_law 899 = .ok (.iaload, 1) := by decide +kernel
theorem dL_law_900 : decode cL_law 900 = .ok (.invokevirtual 99, 3) := by decide +kernel
theorem dL_law_903 : decode cL_law 903 = .ok (.pop, 1) := by decide +kernel
theorem dL_law_904 : decode cL_law 904 = .ok (.aload_n 2, 1) := by decide +kernel
theorem dL_law_905 : decode cL_law 905 = .ok (.aload_n 0, 1) := by decide +kernel
theorem dL_law_906 : decode cL_law 906 = .ok (.iload 4, 2) := by decide +kernel
theorem dL_law_908 : decode cL_law 908 = .ok (.iconst 1, 1) := by decide +kernel
theorem dL_law_909 : decode cL_law 909 = .ok (.iadd, 1) := by decide +kernel
theorem dL_law_910 : decode cL_law 910 = .ok (.iaload, 1) := by decide +kernel
theorem dL_law_911 : decode cL_law 911 = .ok (.aload_n 0, 1) := by decide +kernel
theorem dL_law_912 : decode cL_law 912 = .ok (.iload 4, 2) := by decide +kernel
theorem dL_law_914 : decode cL_law 914 = .ok (.iconst 2, 1) := by decide +kernel
theorem dL_law_915 : decode cL_law 915 = .ok (.iadd, 1) := by decide +kernel
theorem dL_law_916 : decode cL_law 916 = .ok (.iaload, 1) := by decide +kernel
theorem dL_law_917 : decode cL_law 917 = .ok (.invokevirtual 102, 3) := by decide +kernel
theorem dL_law_920 : decode cL_law 920 = .ok (.pop, 1) := by decide +kernel
theorem dL_law_921 : decode cL_law 921 = .ok (.goto 28, 3) := by decide +kernel
theorem dL_law_924 : decode cL_law 924 = .ok (.aload_n 1, 1) := by decide +kernel
theorem dL_law_925 : decode cL_law 925 = .ok (.aload_n 0, 1) := by decide +kernel
theorem dL_law_926 : decode cL_law 926 = .ok (.iload 4, 2) := by decide +kernel
theorem dL_law_928 : decode cL_law 928 = .ok (.iconst 1, 1) := by decide +kernel
theorem dL_law_929 : decode cL_law 929 = .ok (.iadd, 1) := by decide +kernel
theorem dL_law_930 : decode cL_law 930 = .ok (.iaload, 1) := by decide +kernel
theorem dL_law_931 : decode cL_law 931 = .ok (.invokevirtual 103, 3) := by decide +kernel
theorem dL_law_934 : decode cL_law 934 = .ok (.pop, 1) := by decide +kernel
theorem dL_law_935 : decode cL_law 935 = .ok (.aload_n 2, 1) := by decide +kernel
theorem dL_law_936 : decode cL_law 936 = .ok (.aload_n 0, 1) := by decide +kernel
theorem dL_law_937 : decode cL_law 937 = .ok (.iload 4, 2) := by decide +kernel
theorem dL_law_939 : decode cL_law 939 = .ok (.iconst 1, 1) := by decide +kernel
theorem dL_law_940 : decode cL_law 940 = .ok (.iadd, 1) := by decide +kernel
theorem dL_law_941 : decode cL_law 941 = .ok (.iaload, 1) := by decide +kernel
theorem dL_law_942 : decode cL_law 942 = .ok (.invokevirtual 106, 3) := by decide +kernel
theorem dL_law_945 : decode cL_law 945 = .ok (.pop, 1) := by decide +kernel
theorem dL_law_946 : decode cL_law 946 = .ok (.goto 3, 3) := by decide +kernel
theorem dL_law_949 : decode cL_law 949 = .ok (.iinc 4 6, 3) := by decide +kernel
theorem dL_law_952 : decode cL_law 952 = .ok (.goto (-929), 3) := by decide +kernel
theorem dL_law_955 : decode cL_law 955 = .ok (.iconst 1, 1) := by decide +kernel
theorem dL_law_956 : decode cL_law 956 = .ok (.ireturn, 1) := by decide +kernel
