theorem dX4_init_0 : decode cX4_init 0 = .ok (.aload_n 0, 1) := by decide +kernel
theorem dX4_init_1 : decode cX4_init 1 = .ok (.invokespecial 1, 3) := by decide +kernel
theorem dX4_init_4 : decode cX4_init 4 = .ok (.aload_n 0, 1) := by decide +kernel
theorem dX4_init_5 : decode cX4_init 5 = .ok (.new 7, 3) := by decide +kernel
theorem dX4_init_8 : decode cX4_init 8 = .ok (.dup, 1) := by decide +kernel
theorem dX4_init_9 : decode cX4_init 9 = .ok (.invokespecial 9, 3) := by decide +kernel
theorem dX4_init_12 : decode cX4_init 12 = .ok (.putfield 10, 3) := by decide +kernel
theorem dX4_init_15 : decode cX4_init 15 = .ok (.aload_n 0, 1) := by decide +kernel
theorem dX4_init_16 : decode cX4_init 16 = .ok (.new 16, 3) := by decide +kernel
theorem dX4_init_19 : decode cX4_init 19 = .ok (.dup, 1) := by decide +kernel
theorem dX4_init_20 : decode cX4_init 20 = .ok (.invokespecial 18, 3) := by decide +kernel
theorem dX4_init_23 : decode cX4_init 23 = .ok (.putfield 19, 3) := by decide +kernel
theorem dX4_init_26 : decode cX4_init 26 = .ok (.aload_n 0, 1) := by decide +kernel
theorem dX4_init_27 : decode cX4_init 27 = .ok (.bipush 60, 2) := by decide +kernel
theorem dX4_init_29 : decode cX4_init 29 = .ok (.anewarray 23, 3) := by decide +kernel
theorem dX4_init_32 : decode cX4_init 32 = .ok (.putfield 25, 3) := by decide +kernel
theorem dX4_init_35 : decode cX4_init 35 = .ok (.aload_n 0, 1) := by decide +kernel
theorem dX4_init_36 : decode cX4_init 36 = .ok (.iconst 0, 1) := by decide +kernel
theorem dX4_init_37 : decode cX4_init 37 = .ok (.putfield 29, 3) := by decide +kernel
theorem dX4_init_40 : decode cX4_init 40 = .ok (.aload_n 0, 1) := by decide +kernel
theorem dX4_init_41 : decode cX4_init 41 = .ok (.iconst 0, 1) := by decide +kernel
theorem dX4_init_42 : decode cX4_init 42 = .ok (.putfield 33, 3) := by decide +kernel
theorem dX4_init_45 : decode cX4_init 45 = .ok (.aload_n 0, 1) := by decide +kernel
theorem dX4_init_46 : decode cX4_init 46 = .ok (.iconst 0, 1) := by decide +kernel
theorem dX4_init_47 : decode cX4_init 47 = .ok (.putfield 36, 3) := by decide +kernel
theorem dX4_init_50 : decode cX4_init 50 = .ok (.iconst 0, 1) := by decide +kernel
theorem dX4_init_51 : decode cX4_init 51 = .ok (.istore_n 1, 1) := by decide +kernel
theorem dX4_init_52 : decode cX4_init 52 = .ok (.iload_n 1, 1) := by decide +kernel
theorem dX4_init_53 : decode cX4_init 53 = .ok (.bipush 60, 2) := by decide +kernel
theorem dX4_init_55 : decode cX4_init 55 = .ok (.if_icmp .ge 22, 3) := by decide +kernel
theorem dX4_init_58 : decode cX4_init 58 = .ok (.aload_n 0, 1) := by decide +kernel
theorem dX4_init_59 : decode cX4_init 59 = .ok (.getfield 25, 3) := by decide +kernel
theorem dX4_init_62 : decode cX4_init 62 = .ok (.iload_n 1, 1) := by decide +kernel
theorem dX4_init_63 : decode cX4_init 63 = .ok (.new 23, 3) := by decide +kernel
theorem dX4_init_66 : decode cX4_init 66 = .ok (.dup, 1) := by decide +kernel
theorem dX4_init_67 : decode cX4_init 67 = .ok (.invokespecial 39, 3) := by decide +kernel
theorem dX4_init_70 : decode cX4_init 70 = .ok (.aastore, 1) := by decide +kernel
theorem dX4_init_71 : decode cX4_init 71 = .ok (.iinc 1 1, 3) := by decide +kernel
theorem dX4_init_74 : decode cX4_init 74 = .ok (.goto (-22), 3) := by decide +kernel
theorem dX4_init_77 : decode cX4_init 77 = .ok (.return_, 1) := by decide +kernel
theorem dX4_cart_0 : decode cX4_cart 0 = .ok (.iload_n 1, 1) := by decide +kernel
theorem dX4_cart_1 : decode cX4_cart 1 = .ok (.iload_n 3, 1) := by decide +kernel
theorem dX4_cart_2 : decode cX4_cart 2 = .ok (.iload 4, 2) := by decide +kernel
theorem dX4_cart_4 : decode cX4_cart 4 = .ok (.invokestatic 40, 3) := by decide +kernel
theorem dX4_cart_7 : decode cX4_cart 7 = .ok (.ifCond .eq 21, 3) := by decide +kernel
theorem dX4_cart_10 : decode cX4_cart 10 = .ok (.iload_n 2, 1) := by decide +kernel
theorem dX4_cart_11 : decode cX4_cart 11 = .ok (.iconst 0, 1) := by decide +kernel
theorem dX4_cart_12 : decode cX4_cart 12 = .ok (.bipush 23, 2) := by decide +kernel
theorem dX4_cart_14 : decode cX4_cart 14 = .ok (.invokestatic 44, 3) := by decide +kernel
theorem dX4_cart_17 : decode cX4_cart 17 = .ok (.ifCond .eq 11, 3) := by decide +kernel
theorem dX4_cart_20 : decode cX4_cart 20 = .ok (.iload 5, 2) := by decide +kernel
theorem dX4_cart_22 : decode cX4_cart 22 = .ok (.invokestatic 47, 3) := by decide +kernel
theorem dX4_cart_25 : decode cX4_cart 25 = .ok (.ifCond .ne 5, 3) := by decide +kernel
theorem dX4_cart_28 : decode cX4_cart 28 = .ok (.iconst (-1), 1) := by decide +kernel
theorem dX4_cart_29 : decode cX4_cart 29 = .ok (.ireturn, 1) := by decide +kernel
theorem dX4_cart_30 : decode cX4_cart 30 = .ok (.aload_n 0, 1) := by decide +kernel
theorem dX4_cart_31 : decode cX4_cart 31 = .ok (.getfield 10, 3) := by decide +kernel
theorem dX4_cart_34 : decode cX4_cart 34 = .ok (.getfield 51, 3) := by decide +kernel
theorem dX4_cart_37 : decode cX4_cart 37 = .ok (.bipush 12, 2) := by decide +kernel
theorem dX4_cart_39 : decode cX4_cart 39 = .ok (.if_icmp .lt 5, 3) := by decide +kernel
theorem dX4_cart_42 : decode cX4_cart 42 = .ok (.iconst (-1), 1) := by decide +kernel
theorem dX4_cart_43 : decode cX4_cart 43 = .ok (.ireturn, 1) := by decide +kernel
theorem dX4_cart_44 : decode cX4_cart 44 = .ok (.aload_n 0, 1) := by decide +kernel
theorem dX4_cart_45 : decode cX4_cart 45 = .ok (.getfield 10, 3) := by decide +kernel
theorem dX4_cart_48 : decode cX4_cart 48 = .ok (.getfield 51, 3) := by decide +kernel
theorem dX4_cart_51 : decode cX4_cart 51 = .ok (.istore 6, 2) := by decide +kernel
theorem dX4_cart_53 : decode cX4_cart 53 = .ok (.aload_n 0, 1) := by decide +kernel
theorem dX4_cart_54 : decode cX4_cart 54 = .ok (.getfield 10, 3) := by decide +kernel
theorem dX4_cart_57 : decode cX4_cart 57 = .ok (.iload 6, 2) := by decide +kernel
theorem dX4_cart_59 : decode cX4_cart 59 = .ok (.iconst 1, 1) := by decide +kernel
theorem dX4_cart_60 : decode cX4_cart 60 = .ok (.iadd, 1) := by decide +kernel
theorem dX4_cart_61 : decode cX4_cart 61 = .ok (.putfield 51, 3) := by decide +kernel
theorem dX4_cart_64 : decode cX4_cart 64 = .ok (.aload_n 0, 1) := by decide +kernel
theorem dX4_cart_65 : decode cX4_cart 65 = .ok (.getfield 10, 3) := by decide +kernel
theorem dX4_cart_68 : decode cX4_cart 68 = .ok (.getfield 54, 3) := by decide +kernel
theorem dX4_cart_71 : decode cX4_cart 71 = .ok (.iload 6, 2) := by decide +kernel
theorem dX4_cart_73 : decode cX4_cart 73 = .ok (.aaload, 1) := by decide +kernel
theorem dX4_cart_74 : decode cX4_cart 74 = .ok (.astore 7, 2) := by decide +kernel
theorem dX4_cart_76 : decode cX4_cart 76 = .ok (.aload 7, 2) := by decide +kernel
theorem dX4_cart_78 : decode cX4_cart 78 = .ok (.iload_n 2, 1) := by decide +kernel
theorem dX4_cart_79 : decode cX4_cart 79 = .ok (.putfield 58, 3) := by decide +kernel
theorem dX4_cart_82 : decode cX4_cart 82 = .ok (.aload 7, 2) := by decide +kernel
theorem dX4_cart_84 : decode cX4_cart 84 = .ok (.iload_n 1, 1) := by decide +kernel
theorem dX4_cart_85 : decode cX4_cart 85 = .ok (.iload_n 3, 1) := by decide +kernel
theorem dX4_cart_86 : decode cX4_cart 86 = .ok (.iload 4, 2) := by decide +kernel
theorem dX4_cart_88 : decode cX4_cart 88 = .ok (.invokevirtual 63, 3) := by decide +kernel
theorem dX4_cart_91 : decode cX4_cart 91 = .ok (.aload_n 0, 1) := by decide +kernel
theorem dX4_cart_92 : decode cX4_cart 92 = .ok (.getfield 10, 3) := by decide +kernel
theorem dX4_cart_95 : decode cX4_cart 95 = .ok (.iload 6, 2) := by decide +kernel
theorem dX4_cart_97 : decode cX4_cart 97 = .ok (.iload 5, 2) := by decide +kernel
theorem dX4_cart_99 : decode cX4_cart 99 = .ok (.iconst 0, 1) := by decide +kernel
theorem dX4_cart_100 : decode cX4_cart 100 = .ok (.invokevirtual 67, 3) := by decide +kernel
theorem dX4_cart_103 : decode cX4_cart 103 = .ok (.iload 6, 2) := by decide +kernel
theorem dX4_cart_105 : decode cX4_cart 105 = .ok (.ireturn, 1) := by decide +kernel
theorem dX4_stop_0 : decode cX4_stop 0 = .ok (.aload_n 0, 1) := by decide +kernel
theorem dX4_stop_1 : decode cX4_stop 1 = .ok (.iload_n 1, 1) := by decide +kernel
theorem dX4_stop_2 : decode cX4_stop 2 = .ok (.invokevirtual 70, 3) := by decide +kernel
theorem dX4_stop_5 : decode cX4_stop 5 = .ok (.ifCond .eq 16, 3) := by decide +kernel
theorem dX4_stop_8 : decode cX4_stop 8 = .ok (.iload_n 2, 1) := by decide +kernel
theorem dX4_stop_9 : decode cX4_stop 9 = .ok (.invokestatic 47, 3) := by decide +kernel
theorem dX4_stop_12 : decode cX4_stop 12 = .ok (.ifCond .eq 9, 3) := by decide +kernel
theorem dX4_stop_15 : decode cX4_stop 15 = .ok (.iload_n 3, 1) := by decide +kernel
theorem dX4_stop_16 : decode cX4_stop 16 = .ok (.bipush 60, 2) := by decide +kernel
theorem dX4_stop_18 : decode cX4_stop 18 = .ok (.if_icmp .le 5, 3) := by decide +kernel
theorem dX4_stop_21 : decode cX4_stop 21 = .ok (.iconst (-1), 1) := by decide +kernel
theorem dX4_stop_22 : decode cX4_stop 22 = .ok (.ireturn, 1) := by decide +kernel
theorem dX4_stop_23 : decode cX4_stop 23 = .ok (.aload_n 0, 1) := by decide +kernel
theorem dX4_stop_24 : decode cX4_stop 24 = .ok (.getfield 10, 3) := by decide +kernel
theorem dX4_stop_27 : decode cX4_stop 27 = .ok (.getfield 54, 3) := by decide +kernel
theorem dX4_stop_30 : decode cX4_stop 30 = .ok (.iload_n 1, 1) := by decide +kernel
theorem dX4_stop_31 : decode cX4_stop 31 = .ok (.aaload, 1) := by decide +kernel
theorem dX4_stop_32 : decode cX4_stop 32 = .ok (.astore 4, 2) := by decide +kernel
theorem dX4_stop_34 : decode cX4_stop 34 = .ok (.aload 4, 2) := by decide +kernel
theorem dX4_stop_36 : decode cX4_stop 36 = .ok (.getfield 73, 3) := by decide +kernel
theorem dX4_stop_39 : decode cX4_stop 39 = .ok (.bipush 6, 2) := by decide +kernel
theorem dX4_stop_41 : decode cX4_stop 41 = .ok (.if_icmp .ge 20, 3) := by decide +kernel
theorem dX4_stop_44 : decode cX4_stop 44 = .ok (.iload_n 3, 1) := by decide +kernel
theorem dX4_stop_45 : decode cX4_stop 45 = .ok (.aload 4, 2) := by decide +kernel
theorem dX4_stop_47 : decode cX4_stop 47 = .ok (.invokevirtual 76, 3) := by decide +kernel
theorem dX4_stop_50 : decode cX4_stop 50 = .ok (.if_icmp .le 11, 3) := by decide +kernel
theorem dX4_stop_53 : decode cX4_stop 53 = .ok (.aload 4, 2) := by decide +kernel
theorem dX4_stop_55 : decode cX4_stop 55 = .ok (.invokevirtual 80, 3) := by decide +kernel
theorem dX4_stop_58 : decode cX4_stop 58 = .ok (.ifCond .eq 5, 3) := by decide +kernel
theorem dX4_stop_61 : decode cX4_stop 61 = .ok (.iconst (-1), 1) := by decide +kernel
theorem dX4_stop_62 : decode cX4_stop 62 = .ok (.ireturn, 1) := by decide +kernel
theorem dX4_stop_63 : decode cX4_stop 63 = .ok (.aload_n 0, 1) := by decide +kernel
theorem dX4_stop_64 : decode cX4_stop 64 = .ok (.getfield 10, 3) := by decide +kernel
theorem dX4_stop_67 : decode cX4_stop 67 = .ok (.iload_n 1, 1) := by decide +kernel
theorem dX4_stop_68 : decode cX4_stop 68 = .ok (.iload_n 2, 1) := by decide +kernel
theorem dX4_stop_69 : decode cX4_stop 69 = .ok (.iload_n 3, 1) := by decide +kernel
theorem dX4_stop_70 : decode cX4_stop 70 = .ok (.invokevirtual 67, 3) := by decide +kernel
theorem dX4_stop_73 : decode cX4_stop 73 = .ok (.aload 4, 2) := by decide +kernel
theorem dX4_stop_75 : decode cX4_stop 75 = .ok (.getfield 73, 3) := by decide +kernel
theorem dX4_stop_78 : decode cX4_stop 78 = .ok (.ireturn, 1) := by decide +kernel
theorem dX4_change_0 : decode cX4_change 0 = .ok (.aload_n 0, 1) := by decide +kernel
theorem dX4_change_1 : decode cX4_change 1 = .ok (.iload_n 1, 1) := by decide +kernel
theorem dX4_change_2 : decode cX4_change 2 = .ok (.invokevirtual 70, 3) := by decide +kernel
theorem dX4_change_5 : decode cX4_change 5 = .ok (.ifCond .eq 13, 3) := by decide +kernel
theorem dX4_change_8 : decode cX4_change 8 = .ok (.iload_n 2, 1) := by decide +kernel
theorem dX4_change_9 : decode cX4_change 9 = .ok (.iload_n 3, 1) := by decide +kernel
theorem dX4_change_10 : decode cX4_change 10 = .ok (.iload 4, 2) := by decide +kernel
theorem dX4_change_12 : decode cX4_change 12 = .ok (.invokestatic 40, 3) := by decide +kernel
theorem dX4_change_15 : decode cX4_change 15 = .ok (.ifCond .ne 5, 3) := by decide +kernel
theorem dX4_change_18 : decode cX4_change 18 = .ok (.iconst 0, 1) := by decide +kernel
theorem dX4_change_19 : decode cX4_change 19 = .ok (.ireturn, 1) := by decide +kernel
theorem dX4_change_20 : decode cX4_change 20 = .ok (.aload_n 0, 1) := by decide +kernel
theorem dX4_change_21 : decode cX4_change 21 = .ok (.getfield 10, 3) := by decide +kernel
theorem dX4_change_24 : decode cX4_change 24 = .ok (.getfield 54, 3) := by decide +kernel
theorem dX4_change_27 : decode cX4_change 27 = .ok (.iload_n 1, 1) := by decide +kernel
theorem dX4_change_28 : decode cX4_change 28 = .ok (.aaload, 1) := by decide +kernel
theorem dX4_change_29 : decode cX4_change 29 = .ok (.astore 5, 2) := by decide +kernel
theorem dX4_change_31 : decode cX4_change 31 = .ok (.aload 5, 2) := by decide +kernel
theorem dX4_change_33 : decode cX4_change 33 = .ok (.invokevirtual 80, 3) := by decide +kernel
theorem dX4_change_36 : decode cX4_change 36 = .ok (.ifCond .eq 5, 3) := by decide +kernel
theorem dX4_change_39 : decode cX4_change 39 = .ok (.iconst 0, 1) := by decide +kernel
theorem dX4_change_40 : decode cX4_change 40 = .ok (.ireturn, 1) := by decide +kernel
theorem dX4_change_41 : decode cX4_change 41 = .ok (.aload 5, 2) := by decide +kernel
theorem dX4_change_43 : decode cX4_change 43 = .ok (.iload_n 2, 1) := by decide +kernel
theorem dX4_change_44 : decode cX4_change 44 = .ok (.iload_n 3, 1) := by decide +kernel
theorem dX4_change_45 : decode cX4_change 45 = .ok (.iload 4, 2) := by decide +kernel
theorem dX4_change_47 : decode cX4_change 47 = .ok (.invokevirtual 63, 3) := by decide +kernel
theorem dX4_change_50 : decode cX4_change 50 = .ok (.aload_n 0, 1) := by decide +kernel
theorem dX4_change_51 : decode cX4_change 51 = .ok (.getfield 10, 3) := by decide +kernel
theorem dX4_change_54 : decode cX4_change 54 = .ok (.invokevirtual 84, 3) := by decide +kernel
theorem dX4_change_57 : decode cX4_change 57 = .ok (.iconst 1, 1) := by decide +kernel
theorem dX4_change_58 : decode cX4_change 58 = .ok (.ireturn, 1) := by decide +kernel
theorem dX4_snow_0 : decode cX4_snow 0 = .ok (.aload_n 0, 1) := by decide +kernel
theorem dX4_snow_1 : decode cX4_snow 1 = .ok (.iload_n 1, 1) := by decide +kernel
theorem dX4_snow_2 : decode cX4_snow 2 = .ok (.invokevirtual 70, 3) := by decide +kernel
theorem dX4_snow_5 : decode cX4_snow 5 = .ok (.ifCond .eq 31, 3) := by decide +kernel
theorem dX4_snow_8 : decode cX4_snow 8 = .ok (.iload_n 2, 1) := by decide +kernel
theorem dX4_snow_9 : decode cX4_snow 9 = .ok (.aload_n 0, 1) := by decide +kernel
theorem dX4_snow_10 : decode cX4_snow 10 = .ok (.getfield 33, 3) := by decide +kernel
theorem dX4_snow_13 : decode cX4_snow 13 = .ok (.bipush 24, 2) := by decide +kernel
theorem dX4_snow_15 : decode cX4_snow 15 = .ok (.idiv, 1) := by decide +kernel
theorem dX4_snow_16 : decode cX4_snow 16 = .ok (.iconst 1, 1) := by decide +kernel
theorem dX4_snow_17 : decode cX4_snow 17 = .ok (.iadd, 1) := by decide +kernel
theorem dX4_snow_18 : decode cX4_snow 18 = .ok (.sipush 300, 3) := by decide +kernel
theorem dX4_snow_21 : decode cX4_snow 21 = .ok (.invokestatic 44, 3) := by decide +kernel
theorem dX4_snow_24 : decode cX4_snow 24 = .ok (.ifCond .eq 12, 3) := by decide +kernel
theorem dX4_snow_27 : decode cX4_snow 27 = .ok (.aload_n 0, 1) := by decide +kernel
theorem dX4_snow_28 : decode cX4_snow 28 = .ok (.getfield 36, 3) := by decide +kernel
theorem dX4_snow_31 : decode cX4_snow 31 = .ok (.bipush 100, 2) := by decide +kernel
theorem dX4_snow_33 : decode cX4_snow 33 = .ok (.if_icmp .lt 5, 3) := by decide +kernel
theorem dX4_snow_36 : decode cX4_snow 36 = .ok (.iconst 0, 1) := by decide +kernel
theorem dX4_snow_37 : decode cX4_snow 37 = .ok (.ireturn, 1) := by decide +kernel
theorem dX4_snow_38 : decode cX4_snow 38 = .ok (.aload_n 0, 1) := by decide +kernel
theorem dX4_snow_39 : decode cX4_snow 39 = .ok (.getfield 10, 3) := by decide +kernel
theorem dX4_snow_42 : decode cX4_snow 42 = .ok (.getfield 54, 3) := by decide +kernel
theorem dX4_snow_45 : decode cX4_snow 45 = .ok (.iload_n 1, 1) := by decide +kernel
theorem dX4_snow_46 : decode cX4_snow 46 = .ok (.aaload, 1) := by decide +kernel
theorem dX4_snow_47 : decode cX4_snow 47 = .ok (.astore_n 3, 1) := by decide +kernel
theorem dX4_snow_48 : decode cX4_snow 48 = .ok (.aload_n 3, 1) := by decide +kernel
theorem dX4_snow_49 : decode cX4_snow 49 = .ok (.iload_n 2, 1) := by decide +kernel
theorem dX4_snow_50 : decode cX4_snow 50 = .ok (.invokevirtual 87, 3) := by decide +kernel
theorem dX4_snow_53 : decode cX4_snow 53 = .ok (.ifCond .eq 5, 3) := by decide +kernel
theorem dX4_snow_56 : decode cX4_snow 56 = .ok (.iconst 0, 1) := by decide +kernel
theorem dX4_snow_57 : decode cX4_snow 57 = .ok (.ireturn, 1) := by decide +kernel
theorem dX4_snow_58 : decode cX4_snow 58 = .ok (.aload_n 3, 1) := by decide +kernel
theorem dX4_snow_59 : decode cX4_snow 59 = .ok (.iload_n 2, 1) := by decide +kernel
theorem dX4_snow_60 : decode cX4_snow 60 = .ok (.invokevirtual 90, 3) := by decide +kernel
theorem dX4_snow_63 : decode cX4_snow 63 = .ok (.aload_n 0, 1) := by decide +kernel
theorem dX4_snow_64 : decode cX4_snow 64 = .ok (.dup, 1) := by decide +kernel
theorem dX4_snow_65 : decode cX4_snow 65 = .ok (.getfield 36, 3) := by decide +kernel
theorem dX4_snow_68 : decode cX4_snow 68 = .ok (.iconst 1, 1) := by decide +kernel
theorem dX4_snow_69 : decode cX4_snow 69 = .ok (.iadd, 1) := by decide +kernel
theorem dX4_snow_70 : decode cX4_snow 70 = .ok (.putfield 36, 3) := by decide +kernel
theorem dX4_snow_73 : decode cX4_snow 73 = .ok (.aload_n 0, 1) := by decide +kernel
theorem dX4_snow_74 : decode cX4_snow 74 = .ok (.getfield 10, 3) := by decide +kernel
theorem dX4_snow_77 : decode cX4_snow 77 = .ok (.invokevirtual 84, 3) := by decide +kernel
theorem dX4_snow_80 : decode cX4_snow 80 = .ok (.iconst 1, 1) := by decide +kernel
theorem dX4_snow_81 : decode cX4_snow 81 = .ok (.ireturn, 1) := by decide +kernel
theorem dX4_runs_0 : decode cX4_runs 0 = .ok (.aload_n 0, 1) := by decide +kernel
theorem dX4_runs_1 : decode cX4_runs 1 = .ok (.iload_n 1, 1) := by decide +kernel
theorem dX4_runs_2 : decode cX4_runs 2 = .ok (.invokevirtual 70, 3) := by decide +kernel
theorem dX4_runs_5 : decode cX4_runs 5 = .ok (.ifCond .eq 14, 3) := by decide +kernel
theorem dX4_runs_8 : decode cX4_runs 8 = .ok (.iload_n 2, 1) := by decide +kernel
theorem dX4_runs_9 : decode cX4_runs 9 = .ok (.iconst 0, 1) := by decide +kernel
theorem dX4_runs_10 : decode cX4_runs 10 = .ok (.sipush 300, 3) := by decide +kernel
theorem dX4_runs_13 : decode cX4_runs 13 = .ok (.invokestatic 44, 3) := by decide +kernel
theorem dX4_runs_16 : decode cX4_runs 16 = .ok (.ifCond .ne 5, 3) := by decide +kernel
theorem dX4_runs_19 : decode cX4_runs 19 = .ok (.iconst (-1), 1) := by decide +kernel
theorem dX4_runs_20 : decode cX4_runs 20 = .ok (.ireturn, 1) := by decide +kernel
theorem dX4_runs_21 : decode cX4_runs 21 = .ok (.aload_n 0, 1) := by decide +kernel
theorem dX4_runs_22 : decode cX4_runs 22 = .ok (.getfield 10, 3) := by decide +kernel
theorem dX4_runs_25 : decode cX4_runs 25 = .ok (.getfield 54, 3) := by decide +kernel
theorem dX4_runs_28 : decode cX4_runs 28 = .ok (.iload_n 1, 1) := by decide +kernel
theorem dX4_runs_29 : decode cX4_runs 29 = .ok (.aaload, 1) := by decide +kernel
theorem dX4_runs_30 : decode cX4_runs 30 = .ok (.iload_n 2, 1) := by decide +kernel
theorem dX4_runs_31 : decode cX4_runs 31 = .ok (.invokevirtual 94, 3) := by decide +kernel
theorem dX4_runs_34 : decode cX4_runs 34 = .ok (.ifCond .eq 7, 3) := by decide +kernel
theorem dX4_runs_37 : decode cX4_runs 37 = .ok (.iconst 1, 1) := by decide +kernel
theorem dX4_runs_38 : decode cX4_runs 38 = .ok (.goto 4, 3) := by decide +kernel
theorem dX4_runs_41 : decode cX4_runs 41 = .ok (.iconst 0, 1) := by decide +kernel
theorem dX4_runs_42 : decode cX4_runs 42 = .ok (.ireturn, 1) := by decide +kernel
theorem dX4_fares_0 : decode cX4_fares 0 = .ok (.aload_n 0, 1) := by decide +kernel
theorem dX4_fares_1 : decode cX4_fares 1 = .ok (.iload_n 1, 1) := by decide +kernel
theorem dX4_fares_2 : decode cX4_fares 2 = .ok (.invokevirtual 70, 3) := by decide +kernel
theorem dX4_fares_5 : decode cX4_fares 5 = .ok (.ifCond .eq 18, 3) := by decide +kernel
theorem dX4_fares_8 : decode cX4_fares 8 = .ok (.aload_n 0, 1) := by decide +kernel
theorem dX4_fares_9 : decode cX4_fares 9 = .ok (.getfield 10, 3) := by decide +kernel
theorem dX4_fares_12 : decode cX4_fares 12 = .ok (.getfield 54, 3) := by decide +kernel
theorem dX4_fares_15 : decode cX4_fares 15 = .ok (.iload_n 1, 1) := by decide +kernel
theorem dX4_fares_16 : decode cX4_fares 16 = .ok (.aaload, 1) := by decide +kernel
theorem dX4_fares_17 : decode cX4_fares 17 = .ok (.getfield 97, 3) := by decide +kernel
theorem dX4_fares_20 : decode cX4_fares 20 = .ok (.goto 4, 3) := by decide +kernel
theorem dX4_fares_23 : decode cX4_fares 23 = .ok (.iconst (-1), 1) := by decide +kernel
theorem dX4_fares_24 : decode cX4_fares 24 = .ok (.ireturn, 1) := by decide +kernel
theorem dX4_room_0 : decode cX4_room 0 = .ok (.aload_n 0, 1) := by decide +kernel
theorem dX4_room_1 : decode cX4_room 1 = .ok (.iload_n 1, 1) := by decide +kernel
theorem dX4_room_2 : decode cX4_room 2 = .ok (.invokevirtual 70, 3) := by decide +kernel
theorem dX4_room_5 : decode cX4_room 5 = .ok (.ifCond .eq 19, 3) := by decide +kernel
theorem dX4_room_8 : decode cX4_room 8 = .ok (.aload_n 0, 1) := by decide +kernel
theorem dX4_room_9 : decode cX4_room 9 = .ok (.getfield 10, 3) := by decide +kernel
theorem dX4_room_12 : decode cX4_room 12 = .ok (.getfield 54, 3) := by decide +kernel
theorem dX4_room_15 : decode cX4_room 15 = .ok (.iload_n 1, 1) := by decide +kernel
theorem dX4_room_16 : decode cX4_room 16 = .ok (.aaload, 1) := by decide +kernel
theorem dX4_room_17 : decode cX4_room 17 = .ok (.iload_n 2, 1) := by decide +kernel
theorem dX4_room_18 : decode cX4_room 18 = .ok (.invokevirtual 94, 3) := by decide +kernel
theorem dX4_room_21 : decode cX4_room 21 = .ok (.ifCond .ne 5, 3) := by decide +kernel
theorem dX4_room_24 : decode cX4_room 24 = .ok (.iconst (-1), 1) := by decide +kernel
theorem dX4_room_25 : decode cX4_room 25 = .ok (.ireturn, 1) := by decide +kernel
theorem dX4_room_26 : decode cX4_room 26 = .ok (.aload_n 0, 1) := by decide +kernel
theorem dX4_room_27 : decode cX4_room 27 = .ok (.getfield 10, 3) := by decide +kernel
theorem dX4_room_30 : decode cX4_room 30 = .ok (.getfield 54, 3) := by decide +kernel
theorem dX4_room_33 : decode cX4_room 33 = .ok (.iload_n 1, 1) := by decide +kernel
theorem dX4_room_34 : decode cX4_room 34 = .ok (.aaload, 1) := by decide +kernel
theorem dX4_room_35 : decode cX4_room 35 = .ok (.iload_n 2, 1) := by decide +kernel
theorem dX4_room_36 : decode cX4_room 36 = .ok (.invokevirtual 100, 3) := by decide +kernel
theorem dX4_room_39 : decode cX4_room 39 = .ok (.ireturn, 1) := by decide +kernel
theorem dX4_soon_0 : decode cX4_soon 0 = .ok (.iload_n 1, 1) := by decide +kernel
theorem dX4_soon_1 : decode cX4_soon 1 = .ok (.invokestatic 47, 3) := by decide +kernel
theorem dX4_soon_4 : decode cX4_soon 4 = .ok (.ifCond .eq 21, 3) := by decide +kernel
theorem dX4_soon_7 : decode cX4_soon 7 = .ok (.iload_n 3, 1) := by decide +kernel
theorem dX4_soon_8 : decode cX4_soon 8 = .ok (.invokestatic 47, 3) := by decide +kernel
theorem dX4_soon_11 : decode cX4_soon 11 = .ok (.ifCond .eq 14, 3) := by decide +kernel
theorem dX4_soon_14 : decode cX4_soon 14 = .ok (.iload_n 2, 1) := by decide +kernel
theorem dX4_soon_15 : decode cX4_soon 15 = .ok (.iconst 0, 1) := by decide +kernel
theorem dX4_soon_16 : decode cX4_soon 16 = .ok (.sipush 6000, 3) := by decide +kernel
theorem dX4_soon_19 : decode cX4_soon 19 = .ok (.invokestatic 44, 3) := by decide +kernel
theorem dX4_soon_22 : decode cX4_soon 22 = .ok (.ifCond .ne 5, 3) := by decide +kernel
theorem dX4_soon_25 : decode cX4_soon 25 = .ok (.iconst (-1), 1) := by decide +kernel
theorem dX4_soon_26 : decode cX4_soon 26 = .ok (.ireturn, 1) := by decide +kernel
theorem dX4_soon_27 : decode cX4_soon 27 = .ok (.aload_n 0, 1) := by decide +kernel
theorem dX4_soon_28 : decode cX4_soon 28 = .ok (.getfield 10, 3) := by decide +kernel
theorem dX4_soon_31 : decode cX4_soon 31 = .ok (.iload_n 1, 1) := by decide +kernel
theorem dX4_soon_32 : decode cX4_soon 32 = .ok (.iload_n 2, 1) := by decide +kernel
theorem dX4_soon_33 : decode cX4_soon 33 = .ok (.iload_n 2, 1) := by decide +kernel
theorem dX4_soon_34 : decode cX4_soon 34 = .ok (.sipush 336, 3) := by decide +kernel
theorem dX4_soon_37 : decode cX4_soon 37 = .ok (.iadd, 1) := by decide +kernel
theorem dX4_soon_38 : decode cX4_soon 38 = .ok (.iconst 1, 1) := by decide +kernel
theorem dX4_soon_39 : decode cX4_soon 39 = .ok (.iload_n 3, 1) := by decide +kernel
theorem dX4_soon_40 : decode cX4_soon 40 = .ok (.ishl, 1) := by decide +kernel
theorem dX4_soon_41 : decode cX4_soon 41 = .ok (.invokevirtual 104, 3) := by decide +kernel
theorem dX4_soon_44 : decode cX4_soon 44 = .ok (.ireturn, 1) := by decide +kernel
theorem dX4_reach_0 : decode cX4_reach 0 = .ok (.iload_n 1, 1) := by decide +kernel
theorem dX4_reach_1 : decode cX4_reach 1 = .ok (.invokestatic 47, 3) := by decide +kernel
theorem dX4_reach_4 : decode cX4_reach 4 = .ok (.ifCond .eq 25, 3) := by decide +kernel
theorem dX4_reach_7 : decode cX4_reach 7 = .ok (.iload_n 2, 1) := by decide +kernel
theorem dX4_reach_8 : decode cX4_reach 8 = .ok (.iconst 0, 1) := by decide +kernel
theorem dX4_reach_9 : decode cX4_reach 9 = .ok (.sipush 6000, 3) := by decide +kernel
theorem dX4_reach_12 : decode cX4_reach 12 = .ok (.invokestatic 44, 3) := by decide +kernel
theorem dX4_reach_15 : decode cX4_reach 15 = .ok (.ifCond .eq 14, 3) := by decide +kernel
theorem dX4_reach_18 : decode cX4_reach 18 = .ok (.iload_n 3, 1) := by decide +kernel
theorem dX4_reach_19 : decode cX4_reach 19 = .ok (.iconst 0, 1) := by decide +kernel
theorem dX4_reach_20 : decode cX4_reach 20 = .ok (.sipush 6000, 3) := by decide +kernel
theorem dX4_reach_23 : decode cX4_reach 23 = .ok (.invokestatic 44, 3) := by decide +kernel
theorem dX4_reach_26 : decode cX4_reach 26 = .ok (.ifCond .ne 5, 3) := by decide +kernel
theorem dX4_reach_29 : decode cX4_reach 29 = .ok (.iconst (-1), 1) := by decide +kernel
theorem dX4_reach_30 : decode cX4_reach 30 = .ok (.ireturn, 1) := by decide +kernel
theorem dX4_reach_31 : decode cX4_reach 31 = .ok (.iload_n 3, 1) := by decide +kernel
theorem dX4_reach_32 : decode cX4_reach 32 = .ok (.iload_n 2, 1) := by decide +kernel
theorem dX4_reach_33 : decode cX4_reach 33 = .ok (.if_icmp .lt 12, 3) := by decide +kernel
theorem dX4_reach_36 : decode cX4_reach 36 = .ok (.iload_n 3, 1) := by decide +kernel
theorem dX4_reach_37 : decode cX4_reach 37 = .ok (.iload_n 2, 1) := by decide +kernel
theorem dX4_reach_38 : decode cX4_reach 38 = .ok (.isub, 1) := by decide +kernel
theorem dX4_reach_39 : decode cX4_reach 39 = .ok (.sipush 336, 3) := by decide +kernel
theorem dX4_reach_42 : decode cX4_reach 42 = .ok (.if_icmp .le 5, 3) := by decide +kernel
theorem dX4_reach_45 : decode cX4_reach 45 = .ok (.iconst (-1), 1) := by decide +kernel
theorem dX4_reach_46 : decode cX4_reach 46 = .ok (.ireturn, 1) := by decide +kernel
theorem dX4_reach_47 : decode cX4_reach 47 = .ok (.aload_n 0, 1) := by decide +kernel
theorem dX4_reach_48 : decode cX4_reach 48 = .ok (.getfield 10, 3) := by decide +kernel
theorem dX4_reach_51 : decode cX4_reach 51 = .ok (.iload_n 1, 1) := by decide +kernel
theorem dX4_reach_52 : decode cX4_reach 52 = .ok (.iload_n 2, 1) := by decide +kernel
theorem dX4_reach_53 : decode cX4_reach 53 = .ok (.iload_n 3, 1) := by decide +kernel
theorem dX4_reach_54 : decode cX4_reach 54 = .ok (.aload_n 0, 1) := by decide +kernel
theorem dX4_reach_55 : decode cX4_reach 55 = .ok (.getfield 10, 3) := by decide +kernel
theorem dX4_reach_58 : decode cX4_reach 58 = .ok (.getfield 108, 3) := by decide +kernel
theorem dX4_reach_61 : decode cX4_reach 61 = .ok (.iload_n 1, 1) := by decide +kernel
theorem dX4_reach_62 : decode cX4_reach 62 = .ok (.iaload, 1) := by decide +kernel
theorem dX4_reach_63 : decode cX4_reach 63 = .ok (.invokevirtual 104, 3) := by decide +kernel
theorem dX4_reach_66 : decode cX4_reach 66 = .ok (.pop, 1) := by decide +kernel
theorem dX4_reach_67 : decode cX4_reach 67 = .ok (.aload_n 0, 1) := by decide +kernel
theorem dX4_reach_68 : decode cX4_reach 68 = .ok (.getfield 10, 3) := by decide +kernel
theorem dX4_reach_71 : decode cX4_reach 71 = .ok (.getfield 112, 3) := by decide +kernel
theorem dX4_reach_74 : decode cX4_reach 74 = .ok (.ireturn, 1) := by decide +kernel
theorem dX4_cut_0 : decode cX4_cut 0 = .ok (.aload_n 0, 1) := by decide +kernel
theorem dX4_cut_1 : decode cX4_cut 1 = .ok (.iload_n 1, 1) := by decide +kernel
theorem dX4_cut_2 : decode cX4_cut 2 = .ok (.invokevirtual 70, 3) := by decide +kernel
theorem dX4_cut_5 : decode cX4_cut 5 = .ok (.ifCond .eq 21, 3) := by decide +kernel
theorem dX4_cut_8 : decode cX4_cut 8 = .ok (.iload_n 3, 1) := by decide +kernel
theorem dX4_cut_9 : decode cX4_cut 9 = .ok (.invokestatic 47, 3) := by decide +kernel
theorem dX4_cut_12 : decode cX4_cut 12 = .ok (.ifCond .eq 14, 3) := by decide +kernel
theorem dX4_cut_15 : decode cX4_cut 15 = .ok (.iload_n 2, 1) := by decide +kernel
theorem dX4_cut_16 : decode cX4_cut 16 = .ok (.iconst 0, 1) := by decide +kernel
theorem dX4_cut_17 : decode cX4_cut 17 = .ok (.sipush 6000, 3) := by decide +kernel
theorem dX4_cut_20 : decode cX4_cut 20 = .ok (.invokestatic 44, 3) := by decide +kernel
theorem dX4_cut_23 : decode cX4_cut 23 = .ok (.ifCond .ne 5, 3) := by decide +kernel
theorem dX4_cut_26 : decode cX4_cut 26 = .ok (.iconst (-1), 1) := by decide +kernel
theorem dX4_cut_27 : decode cX4_cut 27 = .ok (.ireturn, 1) := by decide +kernel
theorem dX4_cut_28 : decode cX4_cut 28 = .ok (.aload_n 0, 1) := by decide +kernel
theorem dX4_cut_29 : decode cX4_cut 29 = .ok (.getfield 10, 3) := by decide +kernel
theorem dX4_cut_32 : decode cX4_cut 32 = .ok (.iload_n 3, 1) := by decide +kernel
theorem dX4_cut_33 : decode cX4_cut 33 = .ok (.iload_n 2, 1) := by decide +kernel
theorem dX4_cut_34 : decode cX4_cut 34 = .ok (.iconst (-1), 1) := by decide +kernel
theorem dX4_cut_35 : decode cX4_cut 35 = .ok (.invokevirtual 115, 3) := by decide +kernel
theorem dX4_cut_38 : decode cX4_cut 38 = .ok (.istore 4, 2) := by decide +kernel
theorem dX4_cut_40 : decode cX4_cut 40 = .ok (.aload_n 0, 1) := by decide +kernel
theorem dX4_cut_41 : decode cX4_cut 41 = .ok (.getfield 10, 3) := by decide +kernel
theorem dX4_cut_44 : decode cX4_cut 44 = .ok (.iload_n 3, 1) := by decide +kernel
theorem dX4_cut_45 : decode cX4_cut 45 = .ok (.iload_n 2, 1) := by decide +kernel
theorem dX4_cut_46 : decode cX4_cut 46 = .ok (.iload_n 1, 1) := by decide +kernel
theorem dX4_cut_47 : decode cX4_cut 47 = .ok (.invokevirtual 115, 3) := by decide +kernel
theorem dX4_cut_50 : decode cX4_cut 50 = .ok (.istore 5, 2) := by decide +kernel
theorem dX4_cut_52 : decode cX4_cut 52 = .ok (.iload 4, 2) := by decide +kernel
theorem dX4_cut_54 : decode cX4_cut 54 = .ok (.iload 5, 2) := by decide +kernel
theorem dX4_cut_56 : decode cX4_cut 56 = .ok (.iconst (-1), 1) := by decide +kernel
theorem dX4_cut_57 : decode cX4_cut 57 = .ok (.ixor, 1) := by decide +kernel
theorem dX4_cut_58 : decode cX4_cut 58 = .ok (.iand, 1) := by decide +kernel
theorem dX4_cut_59 : decode cX4_cut 59 = .ok (.ireturn, 1) := by decide +kernel
theorem dX4_parcel_0 : decode cX4_parcel 0 = .ok (.iload_n 1, 1) := by decide +kernel
theorem dX4_parcel_1 : decode cX4_parcel 1 = .ok (.invokestatic 47, 3) := by decide +kernel
theorem dX4_parcel_4 : decode cX4_parcel 4 = .ok (.ifCond .eq 25, 3) := by decide +kernel
theorem dX4_parcel_7 : decode cX4_parcel 7 = .ok (.iload_n 2, 1) := by decide +kernel
theorem dX4_parcel_8 : decode cX4_parcel 8 = .ok (.invokestatic 47, 3) := by decide +kernel
theorem dX4_parcel_11 : decode cX4_parcel 11 = .ok (.ifCond .eq 18, 3) := by decide +kernel
theorem dX4_parcel_14 : decode cX4_parcel 14 = .ok (.iload_n 1, 1) := by decide +kernel
theorem dX4_parcel_15 : decode cX4_parcel 15 = .ok (.iload_n 2, 1) := by decide +kernel
theorem dX4_parcel_16 : decode cX4_parcel 16 = .ok (.if_icmp .eq 13, 3) := by decide +kernel
theorem dX4_parcel_19 : decode cX4_parcel 19 = .ok (.iload_n 3, 1) := by decide +kernel
theorem dX4_parcel_20 : decode cX4_parcel 20 = .ok (.iconst 1, 1) := by decide +kernel
theorem dX4_parcel_21 : decode cX4_parcel 21 = .ok (.bipush 20, 2) := by decide +kernel
theorem dX4_parcel_23 : decode cX4_parcel 23 = .ok (.invokestatic 44, 3) := by decide +kernel
theorem dX4_parcel_26 : decode cX4_parcel 26 = .ok (.ifCond .ne 5, 3) := by decide +kernel
theorem dX4_parcel_29 : decode cX4_parcel 29 = .ok (.iconst (-1), 1) := by decide +kernel
theorem dX4_parcel_30 : decode cX4_parcel 30 = .ok (.ireturn, 1) := by decide +kernel
theorem dX4_parcel_31 : decode cX4_parcel 31 = .ok (.aload_n 0, 1) := by decide +kernel
theorem dX4_parcel_32 : decode cX4_parcel 32 = .ok (.getfield 29, 3) := by decide +kernel
theorem dX4_parcel_35 : decode cX4_parcel 35 = .ok (.bipush 60, 2) := by decide +kernel
theorem dX4_parcel_37 : decode cX4_parcel 37 = .ok (.if_icmp .lt 5, 3) := by decide +kernel
theorem dX4_parcel_40 : decode cX4_parcel 40 = .ok (.iconst (-1), 1) := by decide +kernel
theorem dX4_parcel_41 : decode cX4_parcel 41 = .ok (.ireturn, 1) := by decide +kernel
theorem dX4_parcel_42 : decode cX4_parcel 42 = .ok (.aload_n 0, 1) := by decide +kernel
theorem dX4_parcel_43 : decode cX4_parcel 43 = .ok (.getfield 29, 3) := by decide +kernel
theorem dX4_parcel_46 : decode cX4_parcel 46 = .ok (.istore 4, 2) := by decide +kernel
theorem dX4_parcel_48 : decode cX4_parcel 48 = .ok (.aload_n 0, 1) := by decide +kernel
theorem dX4_parcel_49 : decode cX4_parcel 49 = .ok (.iload 4, 2) := by decide +kernel
theorem dX4_parcel_51 : decode cX4_parcel 51 = .ok (.iconst 1, 1) := by decide +kernel
theorem dX4_parcel_52 : decode cX4_parcel 52 = .ok (.iadd, 1) := by decide +kernel
theorem dX4_parcel_53 : decode cX4_parcel 53 = .ok (.putfield 29, 3) := by decide +kernel
theorem dX4_parcel_56 : decode cX4_parcel 56 = .ok (.aload_n 0, 1) := by decide +kernel
theorem dX4_parcel_57 : decode cX4_parcel 57 = .ok (.getfield 25, 3) := by decide +kernel
theorem dX4_parcel_60 : decode cX4_parcel 60 = .ok (.iload 4, 2) := by decide +kernel
theorem dX4_parcel_62 : decode cX4_parcel 62 = .ok (.aaload, 1) := by decide +kernel
theorem dX4_parcel_63 : decode cX4_parcel 63 = .ok (.iload_n 1, 1) := by decide +kernel
theorem dX4_parcel_64 : decode cX4_parcel 64 = .ok (.iload_n 2, 1) := by decide +kernel
theorem dX4_parcel_65 : decode cX4_parcel 65 = .ok (.iload_n 3, 1) := by decide +kernel
theorem dX4_parcel_66 : decode cX4_parcel 66 = .ok (.invokevirtual 119, 3) := by decide +kernel
theorem dX4_parcel_69 : decode cX4_parcel 69 = .ok (.iload 4, 2) := by decide +kernel
theorem dX4_parcel_71 : decode cX4_parcel 71 = .ok (.ireturn, 1) := by decide +kernel
theorem dX4_tick_0 : decode cX4_tick 0 = .ok (.iload_n 1, 1) := by decide +kernel
theorem dX4_tick_1 : decode cX4_tick 1 = .ok (.iconst 0, 1) := by decide +kernel
theorem dX4_tick_2 : decode cX4_tick 2 = .ok (.sipush 500, 3) := by decide +kernel
theorem dX4_tick_5 : decode cX4_tick 5 = .ok (.invokestatic 44, 3) := by decide +kernel
theorem dX4_tick_8 : decode cX4_tick 8 = .ok (.ifCond .eq 15, 3) := by decide +kernel
theorem dX4_tick_11 : decode cX4_tick 11 = .ok (.iload_n 1, 1) := by decide +kernel
theorem dX4_tick_12 : decode cX4_tick 12 = .ok (.sipush 5000, 3) := by decide +kernel
theorem dX4_tick_15 : decode cX4_tick 15 = .ok (.aload_n 0, 1) := by decide +kernel
theorem dX4_tick_16 : decode cX4_tick 16 = .ok (.getfield 33, 3) := by decide +kernel
theorem dX4_tick_19 : decode cX4_tick 19 = .ok (.isub, 1) := by decide +kernel
theorem dX4_tick_20 : decode cX4_tick 20 = .ok (.if_icmp .le 5, 3) := by decide +kernel
theorem dX4_tick_23 : decode cX4_tick 23 = .ok (.iconst (-1), 1) := by decide +kernel
theorem dX4_tick_24 : decode cX4_tick 24 = .ok (.ireturn, 1) := by decide +kernel
theorem dX4_tick_25 : decode cX4_tick 25 = .ok (.iconst 0, 1) := by decide +kernel
theorem dX4_tick_26 : decode cX4_tick 26 = .ok (.istore_n 2, 1) := by decide +kernel
theorem dX4_tick_27 : decode cX4_tick 27 = .ok (.iload_n 2, 1) := by decide +kernel
theorem dX4_tick_28 : decode cX4_tick 28 = .ok (.iload_n 1, 1) := by decide +kernel
theorem dX4_tick_29 : decode cX4_tick 29 = .ok (.if_icmp .ge 41, 3) := by decide +kernel
theorem dX4_tick_32 : decode cX4_tick 32 = .ok (.aload_n 0, 1) := by decide +kernel
theorem dX4_tick_33 : decode cX4_tick 33 = .ok (.dup, 1) := by decide +kernel
theorem dX4_tick_34 : decode cX4_tick 34 = .ok (.getfield 33, 3) := by decide +kernel
theorem dX4_tick_37 : decode cX4_tick 37 = .ok (.iconst 1, 1) := by decide +kernel
theorem dX4_tick_38 : decode cX4_tick 38 = .ok (.iadd, 1) := by decide +kernel
theorem dX4_tick_39 : decode cX4_tick 39 = .ok (.putfield 33, 3) := by decide +kernel
theorem dX4_tick_42 : decode cX4_tick 42 = .ok (.aload_n 0, 1) := by decide +kernel
theorem dX4_tick_43 : decode cX4_tick 43 = .ok (.invokevirtual 122, 3) := by decide +kernel
theorem dX4_tick_46 : decode cX4_tick 46 = .ok (.aload_n 0, 1) := by decide +kernel
theorem dX4_tick_47 : decode cX4_tick 47 = .ok (.getfield 10, 3) := by decide +kernel
theorem dX4_tick_50 : decode cX4_tick 50 = .ok (.aload_n 0, 1) := by decide +kernel
theorem dX4_tick_51 : decode cX4_tick 51 = .ok (.getfield 33, 3) := by decide +kernel
theorem dX4_tick_54 : decode cX4_tick 54 = .ok (.invokevirtual 125, 3) := by decide +kernel
theorem dX4_tick_57 : decode cX4_tick 57 = .ok (.ifCond .eq 7, 3) := by decide +kernel
theorem dX4_tick_60 : decode cX4_tick 60 = .ok (.aload_n 0, 1) := by decide +kernel
theorem dX4_tick_61 : decode cX4_tick 61 = .ok (.invokevirtual 128, 3) := by decide +kernel
theorem dX4_tick_64 : decode cX4_tick 64 = .ok (.iinc 2 1, 3) := by decide +kernel
theorem dX4_tick_67 : decode cX4_tick 67 = .ok (.goto (-40), 3) := by decide +kernel
theorem dX4_tick_70 : decode cX4_tick 70 = .ok (.aload_n 0, 1) := by decide +kernel
theorem dX4_tick_71 : decode cX4_tick 71 = .ok (.getfield 33, 3) := by decide +kernel
theorem dX4_tick_74 : decode cX4_tick 74 = .ok (.ireturn, 1) := by decide +kernel
theorem dX4_told_0 : decode cX4_told 0 = .ok (.iload_n 1, 1) := by decide +kernel
theorem dX4_told_1 : decode cX4_told 1 = .ok (.iconst 0, 1) := by decide +kernel
theorem dX4_told_2 : decode cX4_told 2 = .ok (.aload_n 0, 1) := by decide +kernel
theorem dX4_told_3 : decode cX4_told 3 = .ok (.getfield 29, 3) := by decide +kernel
theorem dX4_told_6 : decode cX4_told 6 = .ok (.iconst 1, 1) := by decide +kernel
theorem dX4_told_7 : decode cX4_told 7 = .ok (.isub, 1) := by decide +kernel
theorem dX4_told_8 : decode cX4_told 8 = .ok (.invokestatic 44, 3) := by decide +kernel
theorem dX4_told_11 : decode cX4_told 11 = .ok (.ifCond .ne 13, 3) := by decide +kernel
theorem dX4_told_14 : decode cX4_told 14 = .ok (.new 131, 3) := by decide +kernel
theorem dX4_told_17 : decode cX4_told 17 = .ok (.dup, 1) := by decide +kernel
theorem dX4_told_18 : decode cX4_told 18 = .ok (.ldc 133, 2) := by decide +kernel
theorem dX4_told_20 : decode cX4_told 20 = .ok (.invokespecial 135, 3) := by decide +kernel
theorem dX4_told_23 : decode cX4_told 23 = .ok (.athrow, 1) := by decide +kernel
theorem dX4_told_24 : decode cX4_told 24 = .ok (.aload_n 0, 1) := by decide +kernel
theorem dX4_told_25 : decode cX4_told 25 = .ok (.getfield 25, 3) := by decide +kernel
theorem dX4_told_28 : decode cX4_told 28 = .ok (.iload_n 1, 1) := by decide +kernel
theorem dX4_told_29 : decode cX4_told 29 = .ok (.aaload, 1) := by decide +kernel
theorem dX4_told_30 : decode cX4_told 30 = .ok (.astore_n 3, 1) := by decide +kernel
theorem dX4_told_31 : decode cX4_told 31 = .ok (.iload_n 2, 1) := by decide +kernel
theorem dX4_told_32 : decode cX4_told 32 = .ok (.tableswitch 88 0 7 #[48, 53, 58, 63, 68, 73, 78, 83], 48) := by decide +kernel
theorem dX4_told_80 : decode cX4_told 80 = .ok (.aload_n 3, 1) := by decide +kernel
theorem dX4_told_81 : decode cX4_told 81 = .ok (.getfield 138, 3) := by decide +kernel
theorem dX4_told_84 : decode cX4_told 84 = .ok (.ireturn, 1) := by decide +kernel
theorem dX4_told_85 : decode cX4_told 85 = .ok (.aload_n 3, 1) := by decide +kernel
theorem dX4_told_86 : decode cX4_told 86 = .ok (.getfield 141, 3) := by decide +kernel
theorem dX4_told_89 : decode cX4_told 89 = .ok (.ireturn, 1) := by decide +kernel
theorem dX4_told_90 : decode cX4_told 90 = .ok (.aload_n 3, 1) := by decide +kernel
theorem dX4_told_91 : decode cX4_told 91 = .ok (.getfield 144, 3) := by decide +kernel
theorem dX4_told_94 : decode cX4_told 94 = .ok (.ireturn, 1) := by decide +kernel
theorem dX4_told_95 : decode cX4_told 95 = .ok (.aload_n 3, 1) := by decide +kernel
theorem dX4_told_96 : decode cX4_told 96 = .ok (.getfield 147, 3) := by decide +kernel
theorem dX4_told_99 : decode cX4_told 99 = .ok (.ireturn, 1) := by decide +kernel
theorem dX4_told_100 : decode cX4_told 100 = .ok (.aload_n 3, 1) := by decide +kernel
theorem dX4_told_101 : decode cX4_told 101 = .ok (.getfield 150, 3) := by decide +kernel
theorem dX4_told_104 : decode cX4_told 104 = .ok (.ireturn, 1) := by decide +kernel
theorem dX4_told_105 : decode cX4_told 105 = .ok (.aload_n 3, 1) := by decide +kernel
theorem dX4_told_106 : decode cX4_told 106 = .ok (.getfield 153, 3) := by decide +kernel
theorem dX4_told_109 : decode cX4_told 109 = .ok (.ireturn, 1) := by decide +kernel
theorem dX4_told_110 : decode cX4_told 110 = .ok (.aload_n 3, 1) := by decide +kernel
theorem dX4_told_111 : decode cX4_told 111 = .ok (.getfield 156, 3) := by decide +kernel
theorem dX4_told_114 : decode cX4_told 114 = .ok (.ireturn, 1) := by decide +kernel
theorem dX4_told_115 : decode cX4_told 115 = .ok (.aload_n 3, 1) := by decide +kernel
theorem dX4_told_116 : decode cX4_told 116 = .ok (.getfield 159, 3) := by decide +kernel
theorem dX4_told_119 : decode cX4_told 119 = .ok (.ireturn, 1) := by decide +kernel
theorem dX4_told_120 : decode cX4_told 120 = .ok (.new 131, 3) := by decide +kernel
theorem dX4_told_123 : decode cX4_told 123 = .ok (.dup, 1) := by decide +kernel
theorem dX4_told_124 : decode cX4_told 124 = .ok (.ldc 162, 2) := by decide +kernel
theorem dX4_told_126 : decode cX4_told 126 = .ok (.invokespecial 135, 3) := by decide +kernel
theorem dX4_told_129 : decode cX4_told 129 = .ok (.athrow, 1) := by decide +kernel
theorem dX4_waiting_0 : decode cX4_waiting 0 = .ok (.iload_n 1, 1) := by decide +kernel
theorem dX4_waiting_1 : decode cX4_waiting 1 = .ok (.invokestatic 47, 3) := by decide +kernel
theorem dX4_waiting_4 : decode cX4_waiting 4 = .ok (.ifCond .ne 5, 3) := by decide +kernel
theorem dX4_waiting_7 : decode cX4_waiting 7 = .ok (.iconst (-1), 1) := by decide +kernel
theorem dX4_waiting_8 : decode cX4_waiting 8 = .ok (.ireturn, 1) := by decide +kernel
theorem dX4_waiting_9 : decode cX4_waiting 9 = .ok (.iconst 0, 1) := by decide +kernel
theorem dX4_waiting_10 : decode cX4_waiting 10 = .ok (.istore_n 2, 1) := by decide +kernel
theorem dX4_waiting_11 : decode cX4_waiting 11 = .ok (.iconst 0, 1) := by decide +kernel
theorem dX4_waiting_12 : decode cX4_waiting 12 = .ok (.istore_n 3, 1) := by decide +kernel
theorem dX4_waiting_13 : decode cX4_waiting 13 = .ok (.iload_n 3, 1) := by decide +kernel
theorem dX4_waiting_14 : decode cX4_waiting 14 = .ok (.aload_n 0, 1) := by decide +kernel
theorem dX4_waiting_15 : decode cX4_waiting 15 = .ok (.getfield 29, 3) := by decide +kernel
theorem dX4_waiting_18 : decode cX4_waiting 18 = .ok (.if_icmp .ge 38, 3) := by decide +kernel
theorem dX4_waiting_21 : decode cX4_waiting 21 = .ok (.aload_n 0, 1) := by decide +kernel
theorem dX4_waiting_22 : decode cX4_waiting 22 = .ok (.getfield 25, 3) := by decide +kernel
theorem dX4_waiting_25 : decode cX4_waiting 25 = .ok (.iload_n 3, 1) := by decide +kernel
theorem dX4_waiting_26 : decode cX4_waiting 26 = .ok (.aaload, 1) := by decide +kernel
theorem dX4_waiting_27 : decode cX4_waiting 27 = .ok (.getfield 144, 3) := by decide +kernel
theorem dX4_waiting_30 : decode cX4_waiting 30 = .ok (.iload_n 1, 1) := by decide +kernel
theorem dX4_waiting_31 : decode cX4_waiting 31 = .ok (.if_icmp .ne 19, 3) := by decide +kernel
theorem dX4_waiting_34 : decode cX4_waiting 34 = .ok (.aload_n 0, 1) := by decide +kernel
theorem dX4_waiting_35 : decode cX4_waiting 35 = .ok (.getfield 25, 3) := by decide +kernel
theorem dX4_waiting_38 : decode cX4_waiting 38 = .ok (.iload_n 3, 1) := by decide +kernel
theorem dX4_waiting_39 : decode cX4_waiting 39 = .ok (.aaload, 1) := by decide +kernel
theorem dX4_waiting_40 : decode cX4_waiting 40 = .ok (.getfield 156, 3) := by decide +kernel
theorem dX4_waiting_43 : decode cX4_waiting 43 = .ok (.iconst (-1), 1) := by decide +kernel
theorem dX4_waiting_44 : decode cX4_waiting 44 = .ok (.if_icmp .ne 6, 3) := by decide +kernel
theorem dX4_waiting_47 : decode cX4_waiting 47 = .ok (.iinc 2 1, 3) := by decide +kernel
theorem dX4_waiting_50 : decode cX4_waiting 50 = .ok (.iinc 3 1, 3) := by decide +kernel
theorem dX4_waiting_53 : decode cX4_waiting 53 = .ok (.goto (-40), 3) := by decide +kernel
theorem dX4_waiting_56 : decode cX4_waiting 56 = .ok (.iload_n 2, 1) := by decide +kernel
theorem dX4_waiting_57 : decode cX4_waiting 57 = .ok (.ireturn, 1) := by decide +kernel
theorem dX4_walk_0 : decode cX4_walk 0 = .ok (.iload_n 1, 1) := by decide +kernel
theorem dX4_walk_1 : decode cX4_walk 1 = .ok (.iconst 0, 1) := by decide +kernel
theorem dX4_walk_2 : decode cX4_walk 2 = .ok (.bipush 8, 2) := by decide +kernel
theorem dX4_walk_4 : decode cX4_walk 4 = .ok (.invokestatic 44, 3) := by decide +kernel
theorem dX4_walk_7 : decode cX4_walk 7 = .ok (.ifCond .eq 18, 3) := by decide +kernel
theorem dX4_walk_10 : decode cX4_walk 10 = .ok (.iload_n 2, 1) := by decide +kernel
theorem dX4_walk_11 : decode cX4_walk 11 = .ok (.iconst 0, 1) := by decide +kernel
theorem dX4_walk_12 : decode cX4_walk 12 = .ok (.bipush 8, 2) := by decide +kernel
theorem dX4_walk_14 : decode cX4_walk 14 = .ok (.invokestatic 44, 3) := by decide +kernel
theorem dX4_walk_17 : decode cX4_walk 17 = .ok (.ifCond .eq 8, 3) := by decide +kernel
theorem dX4_walk_20 : decode cX4_walk 20 = .ok (.iload_n 1, 1) := by decide +kernel
theorem dX4_walk_21 : decode cX4_walk 21 = .ok (.iload_n 2, 1) := by decide +kernel
theorem dX4_walk_22 : decode cX4_walk 22 = .ok (.if_icmp .ne 5, 3) := by decide +kernel
theorem dX4_walk_25 : decode cX4_walk 25 = .ok (.iconst 0, 1) := by decide +kernel
theorem dX4_walk_26 : decode cX4_walk 26 = .ok (.ireturn, 1) := by decide +kernel
theorem dX4_walk_27 : decode cX4_walk 27 = .ok (.iload_n 3, 1) := by decide +kernel
theorem dX4_walk_28 : decode cX4_walk 28 = .ok (.iconst 0, 1) := by decide +kernel
theorem dX4_walk_29 : decode cX4_walk 29 = .ok (.bipush 60, 2) := by decide +kernel
theorem dX4_walk_31 : decode cX4_walk 31 = .ok (.invokestatic 44, 3) := by decide +kernel
theorem dX4_walk_34 : decode cX4_walk 34 = .ok (.ifCond .ne 5, 3) := by decide +kernel
theorem dX4_walk_37 : decode cX4_walk 37 = .ok (.iconst 0, 1) := by decide +kernel
theorem dX4_walk_38 : decode cX4_walk 38 = .ok (.ireturn, 1) := by decide +kernel
theorem dX4_walk_39 : decode cX4_walk 39 = .ok (.aload_n 0, 1) := by decide +kernel
theorem dX4_walk_40 : decode cX4_walk 40 = .ok (.getfield 19, 3) := by decide +kernel
theorem dX4_walk_43 : decode cX4_walk 43 = .ok (.iload_n 1, 1) := by decide +kernel
theorem dX4_walk_44 : decode cX4_walk 44 = .ok (.iload_n 2, 1) := by decide +kernel
theorem dX4_walk_45 : decode cX4_walk 45 = .ok (.iload_n 3, 1) := by decide +kernel
theorem dX4_walk_46 : decode cX4_walk 46 = .ok (.invokevirtual 164, 3) := by decide +kernel
theorem dX4_walk_49 : decode cX4_walk 49 = .ok (.iconst 1, 1) := by decide +kernel
theorem dX4_walk_50 : decode cX4_walk 50 = .ok (.ireturn, 1) := by decide +kernel
theorem dX4_errand_0 : decode cX4_errand 0 = .ok (.iload_n 1, 1) := by decide +kernel
theorem dX4_errand_1 : decode cX4_errand 1 = .ok (.iconst 1, 1) := by decide +kernel
theorem dX4_errand_2 : decode cX4_errand 2 = .ok (.bipush 8, 2) := by decide +kernel
theorem dX4_errand_4 : decode cX4_errand 4 = .ok (.invokestatic 44, 3) := by decide +kernel
theorem dX4_errand_7 : decode cX4_errand 7 = .ok (.ifCond .eq 13, 3) := by decide +kernel
theorem dX4_errand_10 : decode cX4_errand 10 = .ok (.iload_n 2, 1) := by decide +kernel
theorem dX4_errand_11 : decode cX4_errand 11 = .ok (.iconst 0, 1) := by decide +kernel
theorem dX4_errand_12 : decode cX4_errand 12 = .ok (.bipush 60, 2) := by decide +kernel
theorem dX4_errand_14 : decode cX4_errand 14 = .ok (.invokestatic 44, 3) := by decide +kernel
theorem dX4_errand_17 : decode cX4_errand 17 = .ok (.ifCond .ne 5, 3) := by decide +kernel
theorem dX4_errand_20 : decode cX4_errand 20 = .ok (.iconst 0, 1) := by decide +kernel
theorem dX4_errand_21 : decode cX4_errand 21 = .ok (.ireturn, 1) := by decide +kernel
theorem dX4_errand_22 : decode cX4_errand 22 = .ok (.iload_n 3, 1) := by decide +kernel
theorem dX4_errand_23 : decode cX4_errand 23 = .ok (.iconst 0, 1) := by decide +kernel
theorem dX4_errand_24 : decode cX4_errand 24 = .ok (.bipush 100, 2) := by decide +kernel
theorem dX4_errand_26 : decode cX4_errand 26 = .ok (.invokestatic 44, 3) := by decide +kernel
theorem dX4_errand_29 : decode cX4_errand 29 = .ok (.ifCond .ne 5, 3) := by decide +kernel
theorem dX4_errand_32 : decode cX4_errand 32 = .ok (.iconst 0, 1) := by decide +kernel
theorem dX4_errand_33 : decode cX4_errand 33 = .ok (.ireturn, 1) := by decide +kernel
theorem dX4_errand_34 : decode cX4_errand 34 = .ok (.aload_n 0, 1) := by decide +kernel
theorem dX4_errand_35 : decode cX4_errand 35 = .ok (.getfield 19, 3) := by decide +kernel
theorem dX4_errand_38 : decode cX4_errand 38 = .ok (.iload_n 1, 1) := by decide +kernel
theorem dX4_errand_39 : decode cX4_errand 39 = .ok (.iload_n 2, 1) := by decide +kernel
theorem dX4_errand_40 : decode cX4_errand 40 = .ok (.iload_n 3, 1) := by decide +kernel
theorem dX4_errand_41 : decode cX4_errand 41 = .ok (.invokevirtual 167, 3) := by decide +kernel
theorem dX4_errand_44 : decode cX4_errand 44 = .ok (.iconst 1, 1) := by decide +kernel
theorem dX4_errand_45 : decode cX4_errand 45 = .ok (.ireturn, 1) := by decide +kernel
theorem dX4_clear_0 : decode cX4_clear 0 = .ok (.aload_n 0, 1) := by decide +kernel
theorem dX4_clear_1 : decode cX4_clear 1 = .ok (.getfield 19, 3) := by decide +kernel
theorem dX4_clear_4 : decode cX4_clear 4 = .ok (.invokevirtual 170, 3) := by decide +kernel
theorem dX4_clear_7 : decode cX4_clear 7 = .ok (.return_, 1) := by decide +kernel
theorem dX4_best_0 : decode cX4_best 0 = .ok (.iload_n 1, 1) := by decide +kernel
theorem dX4_best_1 : decode cX4_best 1 = .ok (.iconst 0, 1) := by decide +kernel
theorem dX4_best_2 : decode cX4_best 2 = .ok (.sipush 500, 3) := by decide +kernel
theorem dX4_best_5 : decode cX4_best 5 = .ok (.invokestatic 44, 3) := by decide +kernel
theorem dX4_best_8 : decode cX4_best 8 = .ok (.ifCond .ne 5, 3) := by decide +kernel
theorem dX4_best_11 : decode cX4_best 11 = .ok (.iconst (-1), 1) := by decide +kernel
theorem dX4_best_12 : decode cX4_best 12 = .ok (.ireturn, 1) := by decide +kernel
theorem dX4_best_13 : decode cX4_best 13 = .ok (.aload_n 0, 1) := by decide +kernel
theorem dX4_best_14 : decode cX4_best 14 = .ok (.getfield 19, 3) := by decide +kernel
theorem dX4_best_17 : decode cX4_best 17 = .ok (.iload_n 1, 1) := by decide +kernel
theorem dX4_best_18 : decode cX4_best 18 = .ok (.invokevirtual 173, 3) := by decide +kernel
theorem dX4_best_21 : decode cX4_best 21 = .ok (.iload_n 2, 1) := by decide +kernel
theorem dX4_best_22 : decode cX4_best 22 = .ok (.tableswitch 53 0 2 #[26, 34, 42], 26) := by decide +kernel
theorem dX4_best_48 : decode cX4_best 48 = .ok (.aload_n 0, 1) := by decide +kernel
theorem dX4_best_49 : decode cX4_best 49 = .ok (.getfield 19, 3) := by decide +kernel
theorem dX4_best_52 : decode cX4_best 52 = .ok (.getfield 176, 3) := by decide +kernel
theorem dX4_best_55 : decode cX4_best 55 = .ok (.ireturn, 1) := by decide +kernel
theorem dX4_best_56 : decode cX4_best 56 = .ok (.aload_n 0, 1) := by decide +kernel
theorem dX4_best_57 : decode cX4_best 57 = .ok (.getfield 19, 3) := by decide +kernel
theorem dX4_best_60 : decode cX4_best 60 = .ok (.getfield 179, 3) := by decide +kernel
theorem dX4_best_63 : decode cX4_best 63 = .ok (.ireturn, 1) := by decide +kernel
theorem dX4_best_64 : decode cX4_best 64 = .ok (.aload_n 0, 1) := by decide +kernel
theorem dX4_best_65 : decode cX4_best 65 = .ok (.getfield 19, 3) := by decide +kernel
theorem dX4_best_68 : decode cX4_best 68 = .ok (.getfield 182, 3) := by decide +kernel
theorem dX4_best_71 : decode cX4_best 71 = .ok (.invokestatic 185, 3) := by decide +kernel
theorem dX4_best_74 : decode cX4_best 74 = .ok (.ireturn, 1) := by decide +kernel
theorem dX4_best_75 : decode cX4_best 75 = .ok (.iconst (-1), 1) := by decide +kernel
theorem dX4_best_76 : decode cX4_best 76 = .ok (.ireturn, 1) := by decide +kernel
theorem dX4_round_0 : decode cX4_round 0 = .ok (.iload_n 1, 1) := by decide +kernel
theorem dX4_round_1 : decode cX4_round 1 = .ok (.iconst 0, 1) := by decide +kernel
theorem dX4_round_2 : decode cX4_round 2 = .ok (.sipush 500, 3) := by decide +kernel
theorem dX4_round_5 : decode cX4_round 5 = .ok (.invokestatic 44, 3) := by decide +kernel
theorem dX4_round_8 : decode cX4_round 8 = .ok (.ifCond .eq 13, 3) := by decide +kernel
theorem dX4_round_11 : decode cX4_round 11 = .ok (.iload_n 2, 1) := by decide +kernel
theorem dX4_round_12 : decode cX4_round 12 = .ok (.iconst 0, 1) := by decide +kernel
theorem dX4_round_13 : decode cX4_round 13 = .ok (.bipush 7, 2) := by decide +kernel
theorem dX4_round_15 : decode cX4_round 15 = .ok (.invokestatic 44, 3) := by decide +kernel
theorem dX4_round_18 : decode cX4_round 18 = .ok (.ifCond .ne 5, 3) := by decide +kernel
theorem dX4_round_21 : decode cX4_round 21 = .ok (.iconst (-1), 1) := by decide +kernel
theorem dX4_round_22 : decode cX4_round 22 = .ok (.ireturn, 1) := by decide +kernel
theorem dX4_round_23 : decode cX4_round 23 = .ok (.aload_n 0, 1) := by decide +kernel
theorem dX4_round_24 : decode cX4_round 24 = .ok (.getfield 19, 3) := by decide +kernel
theorem dX4_round_27 : decode cX4_round 27 = .ok (.iload_n 1, 1) := by decide +kernel
theorem dX4_round_28 : decode cX4_round 28 = .ok (.invokevirtual 173, 3) := by decide +kernel
theorem dX4_round_31 : decode cX4_round 31 = .ok (.aload_n 0, 1) := by decide +kernel
theorem dX4_round_32 : decode cX4_round 32 = .ok (.getfield 19, 3) := by decide +kernel
theorem dX4_round_35 : decode cX4_round 35 = .ok (.iload_n 2, 1) := by decide +kernel
theorem dX4_round_36 : decode cX4_round 36 = .ok (.invokevirtual 190, 3) := by decide +kernel
theorem dX4_round_39 : decode cX4_round 39 = .ok (.ireturn, 1) := by decide +kernel
theorem dX4_count_0 : decode cX4_count 0 = .ok (.iload_n 1, 1) := by decide +kernel
theorem dX4_count_1 : decode cX4_count 1 = .ok (.tableswitch 99 0 7 #[47, 52, 60, 65, 70, 75, 80, 88], 47) := by decide +kernel
theorem dX4_count_48 : decode cX4_count 48 = .ok (.aload_n 0, 1) := by decide +kernel
theorem dX4_count_49 : decode cX4_count 49 = .ok (.getfield 33, 3) := by decide +kernel
theorem dX4_count_52 : decode cX4_count 52 = .ok (.ireturn, 1) := by decide +kernel
theorem dX4_count_53 : decode cX4_count 53 = .ok (.aload_n 0, 1) := by decide +kernel
theorem dX4_count_54 : decode cX4_count 54 = .ok (.getfield 10, 3) := by decide +kernel
theorem dX4_count_57 : decode cX4_count 57 = .ok (.getfield 51, 3) := by decide +kernel
theorem dX4_count_60 : decode cX4_count 60 = .ok (.ireturn, 1) := by decide +kernel
theorem dX4_count_61 : decode cX4_count 61 = .ok (.aload_n 0, 1) := by decide +kernel
theorem dX4_count_62 : decode cX4_count 62 = .ok (.getfield 29, 3) := by decide +kernel
theorem dX4_count_65 : decode cX4_count 65 = .ok (.ireturn, 1) := by decide +kernel
theorem dX4_count_66 : decode cX4_count 66 = .ok (.aload_n 0, 1) := by decide +kernel
theorem dX4_count_67 : decode cX4_count 67 = .ok (.invokevirtual 193, 3) := by decide +kernel
theorem dX4_count_70 : decode cX4_count 70 = .ok (.ireturn, 1) := by decide +kernel
theorem dX4_count_71 : decode cX4_count 71 = .ok (.aload_n 0, 1) := by decide +kernel
theorem dX4_count_72 : decode cX4_count 72 = .ok (.invokevirtual 196, 3) := by decide +kernel
theorem dX4_count_75 : decode cX4_count 75 = .ok (.ireturn, 1) := by decide +kernel
theorem dX4_count_76 : decode cX4_count 76 = .ok (.aload_n 0, 1) := by decide +kernel
theorem dX4_count_77 : decode cX4_count 77 = .ok (.getfield 36, 3) := by decide +kernel
theorem dX4_count_80 : decode cX4_count 80 = .ok (.ireturn, 1) := by decide +kernel
theorem dX4_count_81 : decode cX4_count 81 = .ok (.aload_n 0, 1) := by decide +kernel
theorem dX4_count_82 : decode cX4_count 82 = .ok (.getfield 10, 3) := by decide +kernel
theorem dX4_count_85 : decode cX4_count 85 = .ok (.invokevirtual 199, 3) := by decide +kernel
theorem dX4_count_88 : decode cX4_count 88 = .ok (.ireturn, 1) := by decide +kernel
theorem dX4_count_89 : decode cX4_count 89 = .ok (.aload_n 0, 1) := by decide +kernel
theorem dX4_count_90 : decode cX4_count 90 = .ok (.getfield 19, 3) := by decide +kernel
theorem dX4_count_93 : decode cX4_count 93 = .ok (.getfield 202, 3) := by decide +kernel
theorem dX4_count_96 : decode cX4_count 96 = .ok (.invokestatic 185, 3) := by decide +kernel
theorem dX4_count_99 : decode cX4_count 99 = .ok (.ireturn, 1) := by decide +kernel
theorem dX4_count_100 : decode cX4_count 100 = .ok (.iconst (-1), 1) := by decide +kernel
theorem dX4_count_101 : decode cX4_count 101 = .ok (.ireturn, 1) := by decide +kernel
theorem dX4_isIn_0 : decode cX4_isIn 0 = .ok (.iload_n 0, 1) := by decide +kernel
theorem dX4_isIn_1 : decode cX4_isIn 1 = .ok (.iload_n 1, 1) := by decide +kernel
theorem dX4_isIn_2 : decode cX4_isIn 2 = .ok (.if_icmp .lt 12, 3) := by decide +kernel
theorem dX4_isIn_5 : decode cX4_isIn 5 = .ok (.iload_n 0, 1) := by decide +kernel
theorem dX4_isIn_6 : decode cX4_isIn 6 = .ok (.iload_n 2, 1) := by decide +kernel
theorem dX4_isIn_7 : decode cX4_isIn 7 = .ok (.if_icmp .gt 7, 3) := by decide +kernel
theorem dX4_isIn_10 : decode cX4_isIn 10 = .ok (.iconst 1, 1) := by decide +kernel
theorem dX4_isIn_11 : decode cX4_isIn 11 = .ok (.goto 4, 3) := by decide +kernel
theorem dX4_isIn_14 : decode cX4_isIn 14 = .ok (.iconst 0, 1) := by decide +kernel
theorem dX4_isIn_15 : decode cX4_isIn 15 = .ok (.ireturn, 1) := by decide +kernel
theorem dX4_isPlace_0 : decode cX4_isPlace 0 = .ok (.iload_n 0, 1) := by decide +kernel
theorem dX4_isPlace_1 : decode cX4_isPlace 1 = .ok (.iconst 0, 1) := by decide +kernel
theorem dX4_isPlace_2 : decode cX4_isPlace 2 = .ok (.bipush 11, 2) := by decide +kernel
theorem dX4_isPlace_4 : decode cX4_isPlace 4 = .ok (.invokestatic 44, 3) := by decide +kernel
theorem dX4_isPlace_7 : decode cX4_isPlace 7 = .ok (.ireturn, 1) := by decide +kernel
theorem dX4_isCart_0 : decode cX4_isCart 0 = .ok (.iload_n 1, 1) := by decide +kernel
theorem dX4_isCart_1 : decode cX4_isCart 1 = .ok (.iconst 0, 1) := by decide +kernel
theorem dX4_isCart_2 : decode cX4_isCart 2 = .ok (.aload_n 0, 1) := by decide +kernel
theorem dX4_isCart_3 : decode cX4_isCart 3 = .ok (.getfield 10, 3) := by decide +kernel
theorem dX4_isCart_6 : decode cX4_isCart 6 = .ok (.getfield 51, 3) := by decide +kernel
theorem dX4_isCart_9 : decode cX4_isCart 9 = .ok (.iconst 1, 1) := by decide +kernel
theorem dX4_isCart_10 : decode cX4_isCart 10 = .ok (.isub, 1) := by decide +kernel
theorem dX4_isCart_11 : decode cX4_isCart 11 = .ok (.invokestatic 44, 3) := by decide +kernel
theorem dX4_isCart_14 : decode cX4_isCart 14 = .ok (.ireturn, 1) := by decide +kernel
theorem dX4_areTerms_0 : decode cX4_areTerms 0 = .ok (.iload_n 0, 1) := by decide +kernel
theorem dX4_areTerms_1 : decode cX4_areTerms 1 = .ok (.iconst 0, 1) := by decide +kernel
theorem dX4_areTerms_2 : decode cX4_areTerms 2 = .ok (.bipush 127, 2) := by decide +kernel
theorem dX4_areTerms_4 : decode cX4_areTerms 4 = .ok (.invokestatic 44, 3) := by decide +kernel
theorem dX4_areTerms_7 : decode cX4_areTerms 7 = .ok (.ifCond .eq 27, 3) := by decide +kernel
theorem dX4_areTerms_10 : decode cX4_areTerms 10 = .ok (.iload_n 1, 1) := by decide +kernel
theorem dX4_areTerms_11 : decode cX4_areTerms 11 = .ok (.iconst 0, 1) := by decide +kernel
theorem dX4_areTerms_12 : decode cX4_areTerms 12 = .ok (.bipush 50, 2) := by decide +kernel
theorem dX4_areTerms_14 : decode cX4_areTerms 14 = .ok (.invokestatic 44, 3) := by decide +kernel
theorem dX4_areTerms_17 : decode cX4_areTerms 17 = .ok (.ifCond .eq 17, 3) := by decide +kernel
theorem dX4_areTerms_20 : decode cX4_areTerms 20 = .ok (.iload_n 2, 1) := by decide +kernel
theorem dX4_areTerms_21 : decode cX4_areTerms 21 = .ok (.iconst 0, 1) := by decide +kernel
theorem dX4_areTerms_22 : decode cX4_areTerms 22 = .ok (.bipush 20, 2) := by decide +kernel
theorem dX4_areTerms_24 : decode cX4_areTerms 24 = .ok (.invokestatic 44, 3) := by decide +kernel
theorem dX4_areTerms_27 : decode cX4_areTerms 27 = .ok (.ifCond .eq 7, 3) := by decide +kernel
theorem dX4_areTerms_30 : decode cX4_areTerms 30 = .ok (.iconst 1, 1) := by decide +kernel
theorem dX4_areTerms_31 : decode cX4_areTerms 31 = .ok (.goto 4, 3) := by decide +kernel
theorem dX4_areTerms_34 : decode cX4_areTerms 34 = .ok (.iconst 0, 1) := by decide +kernel
theorem dX4_areTerms_35 : decode cX4_areTerms 35 = .ok (.ireturn, 1) := by decide +kernel
theorem dX4_unloadParcels_0 : decode cX4_unloadParcels 0 = .ok (.iconst 0, 1) := by decide +kernel
theorem dX4_unloadParcels_1 : decode cX4_unloadParcels 1 = .ok (.istore_n 1, 1) := by decide +kernel
theorem dX4_unloadParcels_2 : decode cX4_unloadParcels 2 = .ok (.iload_n 1, 1) := by decide +kernel
theorem dX4_unloadParcels_3 : decode cX4_unloadParcels 3 = .ok (.aload_n 0, 1) := by decide +kernel
theorem dX4_unloadParcels_4 : decode cX4_unloadParcels 4 = .ok (.getfield 29, 3) := by decide +kernel
theorem dX4_unloadParcels_7 : decode cX4_unloadParcels 7 = .ok (.if_icmp .ge 66, 3) := by decide +kernel
theorem dX4_unloadParcels_10 : decode cX4_unloadParcels 10 = .ok (.aload_n 0, 1) := by decide +kernel
theorem dX4_unloadParcels_11 : decode cX4_unloadParcels 11 = .ok (.getfield 25, 3) := by decide +kernel
theorem dX4_unloadParcels_14 : decode cX4_unloadParcels 14 = .ok (.iload_n 1, 1) := by decide +kernel
theorem dX4_unloadParcels_15 : decode cX4_unloadParcels 15 = .ok (.aaload, 1) := by decide +kernel
theorem dX4_unloadParcels_16 : decode cX4_unloadParcels 16 = .ok (.astore_n 2, 1) := by decide +kernel
theorem dX4_unloadParcels_17 : decode cX4_unloadParcels 17 = .ok (.aload_n 2, 1) := by decide +kernel
theorem dX4_unloadParcels_18 : decode cX4_unloadParcels 18 = .ok (.getfield 147, 3) := by decide +kernel
theorem dX4_unloadParcels_21 : decode cX4_unloadParcels 21 = .ok (.iconst (-1), 1) := by decide +kernel
theorem dX4_unloadParcels_22 : decode cX4_unloadParcels 22 = .ok (.if_icmp .eq 45, 3) := by decide +kernel
theorem dX4_unloadParcels_25 : decode cX4_unloadParcels 25 = .ok (.aload_n 2, 1) := by decide +kernel
theorem dX4_unloadParcels_26 : decode cX4_unloadParcels 26 = .ok (.getfield 153, 3) := by decide +kernel
theorem dX4_unloadParcels_29 : decode cX4_unloadParcels 29 = .ok (.aload_n 0, 1) := by decide +kernel
theorem dX4_unloadParcels_30 : decode cX4_unloadParcels 30 = .ok (.getfield 33, 3) := by decide +kernel
theorem dX4_unloadParcels_33 : decode cX4_unloadParcels 33 = .ok (.if_icmp .ne 34, 3) := by decide +kernel
theorem dX4_unloadParcels_36 : decode cX4_unloadParcels 36 = .ok (.aload_n 0, 1) := by decide +kernel
theorem dX4_unloadParcels_37 : decode cX4_unloadParcels 37 = .ok (.getfield 10, 3) := by decide +kernel
theorem dX4_unloadParcels_40 : decode cX4_unloadParcels 40 = .ok (.getfield 54, 3) := by decide +kernel
theorem dX4_unloadParcels_43 : decode cX4_unloadParcels 43 = .ok (.aload_n 2, 1) := by decide +kernel
theorem dX4_unloadParcels_44 : decode cX4_unloadParcels 44 = .ok (.getfield 147, 3) := by decide +kernel
theorem dX4_unloadParcels_47 : decode cX4_unloadParcels 47 = .ok (.aaload, 1) := by decide +kernel
theorem dX4_unloadParcels_48 : decode cX4_unloadParcels 48 = .ok (.aload_n 2, 1) := by decide +kernel
theorem dX4_unloadParcels_49 : decode cX4_unloadParcels 49 = .ok (.getfield 150, 3) := by decide +kernel
theorem dX4_unloadParcels_52 : decode cX4_unloadParcels 52 = .ok (.aload_n 2, 1) := by decide +kernel
theorem dX4_unloadParcels_53 : decode cX4_unloadParcels 53 = .ok (.getfield 141, 3) := by decide +kernel
theorem dX4_unloadParcels_56 : decode cX4_unloadParcels 56 = .ok (.invokevirtual 205, 3) := by decide +kernel
theorem dX4_unloadParcels_59 : decode cX4_unloadParcels 59 = .ok (.aload_n 2, 1) := by decide +kernel
theorem dX4_unloadParcels_60 : decode cX4_unloadParcels 60 = .ok (.aload_n 0, 1) := by decide +kernel
theorem dX4_unloadParcels_61 : decode cX4_unloadParcels 61 = .ok (.getfield 33, 3) := by decide +kernel
theorem dX4_unloadParcels_64 : decode cX4_unloadParcels 64 = .ok (.invokevirtual 209, 3) := by decide +kernel
theorem dX4_unloadParcels_67 : decode cX4_unloadParcels 67 = .ok (.iinc 1 1, 3) := by decide +kernel
theorem dX4_unloadParcels_70 : decode cX4_unloadParcels 70 = .ok (.goto (-68), 3) := by decide +kernel
theorem dX4_unloadParcels_73 : decode cX4_unloadParcels 73 = .ok (.return_, 1) := by decide +kernel
theorem dX4_loadParcels_0 : decode cX4_loadParcels 0 = .ok (.iconst 0, 1) := by decide +kernel
theorem dX4_loadParcels_1 : decode cX4_loadParcels 1 = .ok (.istore_n 1, 1) := by decide +kernel
theorem dX4_loadParcels_2 : decode cX4_loadParcels 2 = .ok (.iload_n 1, 1) := by decide +kernel
theorem dX4_loadParcels_3 : decode cX4_loadParcels 3 = .ok (.aload_n 0, 1) := by decide +kernel
theorem dX4_loadParcels_4 : decode cX4_loadParcels 4 = .ok (.getfield 29, 3) := by decide +kernel
theorem dX4_loadParcels_7 : decode cX4_loadParcels 7 = .ok (.if_icmp .ge 37, 3) := by decide +kernel
theorem dX4_loadParcels_10 : decode cX4_loadParcels 10 = .ok (.aload_n 0, 1) := by decide +kernel
theorem dX4_loadParcels_11 : decode cX4_loadParcels 11 = .ok (.getfield 25, 3) := by decide +kernel
theorem dX4_loadParcels_14 : decode cX4_loadParcels 14 = .ok (.iload_n 1, 1) := by decide +kernel
theorem dX4_loadParcels_15 : decode cX4_loadParcels 15 = .ok (.aaload, 1) := by decide +kernel
theorem dX4_loadParcels_16 : decode cX4_loadParcels 16 = .ok (.astore_n 2, 1) := by decide +kernel
theorem dX4_loadParcels_17 : decode cX4_loadParcels 17 = .ok (.aload_n 2, 1) := by decide +kernel
theorem dX4_loadParcels_18 : decode cX4_loadParcels 18 = .ok (.getfield 147, 3) := by decide +kernel
theorem dX4_loadParcels_21 : decode cX4_loadParcels 21 = .ok (.iconst (-1), 1) := by decide +kernel
theorem dX4_loadParcels_22 : decode cX4_loadParcels 22 = .ok (.if_icmp .ne 16, 3) := by decide +kernel
theorem dX4_loadParcels_25 : decode cX4_loadParcels 25 = .ok (.aload_n 2, 1) := by decide +kernel
theorem dX4_loadParcels_26 : decode cX4_loadParcels 26 = .ok (.getfield 156, 3) := by decide +kernel
theorem dX4_loadParcels_29 : decode cX4_loadParcels 29 = .ok (.iconst (-1), 1) := by decide +kernel
theorem dX4_loadParcels_30 : decode cX4_loadParcels 30 = .ok (.if_icmp .ne 8, 3) := by decide +kernel
theorem dX4_loadParcels_33 : decode cX4_loadParcels 33 = .ok (.aload_n 0, 1) := by decide +kernel
theorem dX4_loadParcels_34 : decode cX4_loadParcels 34 = .ok (.aload_n 2, 1) := by decide +kernel
theorem dX4_loadParcels_35 : decode cX4_loadParcels 35 = .ok (.invokevirtual 212, 3) := by decide +kernel
theorem dX4_loadParcels_38 : decode cX4_loadParcels 38 = .ok (.iinc 1 1, 3) := by decide +kernel
theorem dX4_loadParcels_41 : decode cX4_loadParcels 41 = .ok (.goto (-39), 3) := by decide +kernel
theorem dX4_loadParcels_44 : decode cX4_loadParcels 44 = .ok (.return_, 1) := by decide +kernel
theorem dX4_seekRide_0 : decode cX4_seekRide 0 = .ok (.aload_n 0, 1) := by decide +kernel
theorem dX4_seekRide_1 : decode cX4_seekRide 1 = .ok (.getfield 10, 3) := by decide +kernel
theorem dX4_seekRide_4 : decode cX4_seekRide 4 = .ok (.aload_n 0, 1) := by decide +kernel
theorem dX4_seekRide_5 : decode cX4_seekRide 5 = .ok (.getfield 33, 3) := by decide +kernel
theorem dX4_seekRide_8 : decode cX4_seekRide 8 = .ok (.invokevirtual 216, 3) := by decide +kernel
theorem dX4_seekRide_11 : decode cX4_seekRide 11 = .ok (.istore_n 2, 1) := by decide +kernel
theorem dX4_seekRide_12 : decode cX4_seekRide 12 = .ok (.aload_n 0, 1) := by decide +kernel
theorem dX4_seekRide_13 : decode cX4_seekRide 13 = .ok (.getfield 10, 3) := by decide +kernel
theorem dX4_seekRide_16 : decode cX4_seekRide 16 = .ok (.aload_n 0, 1) := by decide +kernel
theorem dX4_seekRide_17 : decode cX4_seekRide 17 = .ok (.getfield 33, 3) := by decide +kernel
theorem dX4_seekRide_20 : decode cX4_seekRide 20 = .ok (.invokevirtual 219, 3) := by decide +kernel
theorem dX4_seekRide_23 : decode cX4_seekRide 23 = .ok (.istore_n 3, 1) := by decide +kernel
theorem dX4_seekRide_24 : decode cX4_seekRide 24 = .ok (.iload_n 3, 1) := by decide +kernel
theorem dX4_seekRide_25 : decode cX4_seekRide 25 = .ok (.iload_n 2, 1) := by decide +kernel
theorem dX4_seekRide_26 : decode cX4_seekRide 26 = .ok (.if_icmp .ge 158, 3) := by decide +kernel
theorem dX4_seekRide_29 : decode cX4_seekRide 29 = .ok (.aload_n 0, 1) := by decide +kernel
theorem dX4_seekRide_30 : decode cX4_seekRide 30 = .ok (.getfield 10, 3) := by decide +kernel
theorem dX4_seekRide_33 : decode cX4_seekRide 33 = .ok (.iload_n 3, 1) := by decide +kernel
theorem dX4_seekRide_34 : decode cX4_seekRide 34 = .ok (.invokevirtual 222, 3) := by decide +kernel
theorem dX4_seekRide_37 : decode cX4_seekRide 37 = .ok (.istore 4, 2) := by decide +kernel
theorem dX4_seekRide_39 : decode cX4_seekRide 39 = .ok (.aload_n 0, 1) := by decide +kernel
theorem dX4_seekRide_40 : decode cX4_seekRide 40 = .ok (.getfield 10, 3) := by decide +kernel
theorem dX4_seekRide_43 : decode cX4_seekRide 43 = .ok (.iload_n 3, 1) := by decide +kernel
theorem dX4_seekRide_44 : decode cX4_seekRide 44 = .ok (.invokevirtual 225, 3) := by decide +kernel
theorem dX4_seekRide_47 : decode cX4_seekRide 47 = .ok (.istore 5, 2) := by decide +kernel
theorem dX4_seekRide_49 : decode cX4_seekRide 49 = .ok (.aload_n 0, 1) := by decide +kernel
theorem dX4_seekRide_50 : decode cX4_seekRide 50 = .ok (.getfield 10, 3) := by decide +kernel
theorem dX4_seekRide_53 : decode cX4_seekRide 53 = .ok (.getfield 54, 3) := by decide +kernel
theorem dX4_seekRide_56 : decode cX4_seekRide 56 = .ok (.iload 4, 2) := by decide +kernel
theorem dX4_seekRide_58 : decode cX4_seekRide 58 = .ok (.aaload, 1) := by decide +kernel
theorem dX4_seekRide_59 : decode cX4_seekRide 59 = .ok (.astore 6, 2) := by decide +kernel
theorem dX4_seekRide_61 : decode cX4_seekRide 61 = .ok (.aload 6, 2) := by decide +kernel
theorem dX4_seekRide_63 : decode cX4_seekRide 63 = .ok (.iload 5, 2) := by decide +kernel
theorem dX4_seekRide_65 : decode cX4_seekRide 65 = .ok (.aload_n 0, 1) := by decide +kernel
theorem dX4_seekRide_66 : decode cX4_seekRide 66 = .ok (.getfield 33, 3) := by decide +kernel
theorem dX4_seekRide_69 : decode cX4_seekRide 69 = .ok (.invokevirtual 228, 3) := by decide +kernel
theorem dX4_seekRide_72 : decode cX4_seekRide 72 = .ok (.istore 7, 2) := by decide +kernel
theorem dX4_seekRide_74 : decode cX4_seekRide 74 = .ok (.aload 6, 2) := by decide +kernel
theorem dX4_seekRide_76 : decode cX4_seekRide 76 = .ok (.aload_n 1, 1) := by decide +kernel
theorem dX4_seekRide_77 : decode cX4_seekRide 77 = .ok (.getfield 144, 3) := by decide +kernel
theorem dX4_seekRide_80 : decode cX4_seekRide 80 = .ok (.iload 5, 2) := by decide +kernel
theorem dX4_seekRide_82 : decode cX4_seekRide 82 = .ok (.invokevirtual 232, 3) := by decide +kernel
theorem dX4_seekRide_85 : decode cX4_seekRide 85 = .ok (.ifCond .eq 93, 3) := by decide +kernel
theorem dX4_seekRide_88 : decode cX4_seekRide 88 = .ok (.aload 6, 2) := by decide +kernel
theorem dX4_seekRide_90 : decode cX4_seekRide 90 = .ok (.iload 7, 2) := by decide +kernel
theorem dX4_seekRide_92 : decode cX4_seekRide 92 = .ok (.invokevirtual 94, 3) := by decide +kernel
theorem dX4_seekRide_95 : decode cX4_seekRide 95 = .ok (.ifCond .eq 83, 3) := by decide +kernel
theorem dX4_seekRide_98 : decode cX4_seekRide 98 = .ok (.aload 6, 2) := by decide +kernel
theorem dX4_seekRide_100 : decode cX4_seekRide 100 = .ok (.iload 7, 2) := by decide +kernel
theorem dX4_seekRide_102 : decode cX4_seekRide 102 = .ok (.invokevirtual 100, 3) := by decide +kernel
theorem dX4_seekRide_105 : decode cX4_seekRide 105 = .ok (.aload_n 1, 1) := by decide +kernel
theorem dX4_seekRide_106 : decode cX4_seekRide 106 = .ok (.getfield 141, 3) := by decide +kernel
theorem dX4_seekRide_109 : decode cX4_seekRide 109 = .ok (.if_icmp .ge 6, 3) := by decide +kernel
theorem dX4_seekRide_112 : decode cX4_seekRide 112 = .ok (.goto 66, 3) := by decide +kernel
theorem dX4_seekRide_115 : decode cX4_seekRide 115 = .ok (.aload_n 0, 1) := by decide +kernel
theorem dX4_seekRide_116 : decode cX4_seekRide 116 = .ok (.aload_n 1, 1) := by decide +kernel
theorem dX4_seekRide_117 : decode cX4_seekRide 117 = .ok (.invokevirtual 236, 3) := by decide +kernel
theorem dX4_seekRide_120 : decode cX4_seekRide 120 = .ok (.aload 6, 2) := by decide +kernel
theorem dX4_seekRide_122 : decode cX4_seekRide 122 = .ok (.iload 5, 2) := by decide +kernel
theorem dX4_seekRide_124 : decode cX4_seekRide 124 = .ok (.iload 7, 2) := by decide +kernel
theorem dX4_seekRide_126 : decode cX4_seekRide 126 = .ok (.aload_n 1, 1) := by decide +kernel
theorem dX4_seekRide_127 : decode cX4_seekRide 127 = .ok (.getfield 239, 3) := by decide +kernel
theorem dX4_seekRide_130 : decode cX4_seekRide 130 = .ok (.invokevirtual 242, 3) := by decide +kernel
theorem dX4_seekRide_133 : decode cX4_seekRide 133 = .ok (.istore 8, 2) := by decide +kernel
theorem dX4_seekRide_135 : decode cX4_seekRide 135 = .ok (.iload 8, 2) := by decide +kernel
theorem dX4_seekRide_137 : decode cX4_seekRide 137 = .ok (.iconst (-1), 1) := by decide +kernel
theorem dX4_seekRide_138 : decode cX4_seekRide 138 = .ok (.if_icmp .eq 40, 3) := by decide +kernel
theorem dX4_seekRide_141 : decode cX4_seekRide 141 = .ok (.aload 6, 2) := by decide +kernel
theorem dX4_seekRide_143 : decode cX4_seekRide 143 = .ok (.iload 7, 2) := by decide +kernel
theorem dX4_seekRide_145 : decode cX4_seekRide 145 = .ok (.aload_n 1, 1) := by decide +kernel
theorem dX4_seekRide_146 : decode cX4_seekRide 146 = .ok (.getfield 141, 3) := by decide +kernel
theorem dX4_seekRide_149 : decode cX4_seekRide 149 = .ok (.invokevirtual 246, 3) := by decide +kernel
theorem dX4_seekRide_152 : decode cX4_seekRide 152 = .ok (.aload_n 1, 1) := by decide +kernel
theorem dX4_seekRide_153 : decode cX4_seekRide 153 = .ok (.iload 4, 2) := by decide +kernel
theorem dX4_seekRide_155 : decode cX4_seekRide 155 = .ok (.iload 7, 2) := by decide +kernel
theorem dX4_seekRide_157 : decode cX4_seekRide 157 = .ok (.aload 6, 2) := by decide +kernel
theorem dX4_seekRide_159 : decode cX4_seekRide 159 = .ok (.iload 8, 2) := by decide +kernel
theorem dX4_seekRide_161 : decode cX4_seekRide 161 = .ok (.iload 7, 2) := by decide +kernel
theorem dX4_seekRide_163 : decode cX4_seekRide 163 = .ok (.invokevirtual 249, 3) := by decide +kernel
theorem dX4_seekRide_166 : decode cX4_seekRide 166 = .ok (.aload 6, 2) := by decide +kernel
theorem dX4_seekRide_168 : decode cX4_seekRide 168 = .ok (.getfield 252, 3) := by decide +kernel
theorem dX4_seekRide_171 : decode cX4_seekRide 171 = .ok (.iload 8, 2) := by decide +kernel
theorem dX4_seekRide_173 : decode cX4_seekRide 173 = .ok (.iaload, 1) := by decide +kernel
theorem dX4_seekRide_174 : decode cX4_seekRide 174 = .ok (.invokevirtual 255, 3) := by decide +kernel
theorem dX4_seekRide_177 : decode cX4_seekRide 177 = .ok (.return_, 1) := by decide +kernel
theorem dX4_seekRide_178 : decode cX4_seekRide 178 = .ok (.iinc 3 1, 3) := by decide +kernel
theorem dX4_seekRide_181 : decode cX4_seekRide 181 = .ok (.goto (-157), 3) := by decide +kernel
theorem dX4_seekRide_184 : decode cX4_seekRide 184 = .ok (.return_, 1) := by decide +kernel
theorem dX4_renewPlan_0 : decode cX4_renewPlan 0 = .ok (.aload_n 1, 1) := by decide +kernel
theorem dX4_renewPlan_1 : decode cX4_renewPlan 1 = .ok (.getfield 259, 3) := by decide +kernel
theorem dX4_renewPlan_4 : decode cX4_renewPlan 4 = .ok (.aload_n 0, 1) := by decide +kernel
theorem dX4_renewPlan_5 : decode cX4_renewPlan 5 = .ok (.getfield 10, 3) := by decide +kernel
theorem dX4_renewPlan_8 : decode cX4_renewPlan 8 = .ok (.getfield 262, 3) := by decide +kernel
theorem dX4_renewPlan_11 : decode cX4_renewPlan 11 = .ok (.if_icmp .ne 7, 3) := by decide +kernel
theorem dX4_renewPlan_14 : decode cX4_renewPlan 14 = .ok (.iconst 1, 1) := by decide +kernel
theorem dX4_renewPlan_15 : decode cX4_renewPlan 15 = .ok (.goto 4, 3) := by decide +kernel
theorem dX4_renewPlan_18 : decode cX4_renewPlan 18 = .ok (.iconst 0, 1) := by decide +kernel
theorem dX4_renewPlan_19 : decode cX4_renewPlan 19 = .ok (.istore_n 2, 1) := by decide +kernel
theorem dX4_renewPlan_20 : decode cX4_renewPlan 20 = .ok (.iload_n 2, 1) := by decide +kernel
theorem dX4_renewPlan_21 : decode cX4_renewPlan 21 = .ok (.ifCond .eq 31, 3) := by decide +kernel
theorem dX4_renewPlan_24 : decode cX4_renewPlan 24 = .ok (.aload_n 0, 1) := by decide +kernel
theorem dX4_renewPlan_25 : decode cX4_renewPlan 25 = .ok (.getfield 33, 3) := by decide +kernel
theorem dX4_renewPlan_28 : decode cX4_renewPlan 28 = .ok (.aload_n 1, 1) := by decide +kernel
theorem dX4_renewPlan_29 : decode cX4_renewPlan 29 = .ok (.getfield 265, 3) := by decide +kernel
theorem dX4_renewPlan_32 : decode cX4_renewPlan 32 = .ok (.if_icmp .lt 19, 3) := by decide +kernel
theorem dX4_renewPlan_35 : decode cX4_renewPlan 35 = .ok (.aload_n 0, 1) := by decide +kernel
theorem dX4_renewPlan_36 : decode cX4_renewPlan 36 = .ok (.getfield 33, 3) := by decide +kernel
theorem dX4_renewPlan_39 : decode cX4_renewPlan 39 = .ok (.aload_n 1, 1) := by decide +kernel
theorem dX4_renewPlan_40 : decode cX4_renewPlan 40 = .ok (.getfield 239, 3) := by decide +kernel
theorem dX4_renewPlan_43 : decode cX4_renewPlan 43 = .ok (.aload_n 1, 1) := by decide +kernel
theorem dX4_renewPlan_44 : decode cX4_renewPlan 44 = .ok (.getfield 144, 3) := by decide +kernel
theorem dX4_renewPlan_47 : decode cX4_renewPlan 47 = .ok (.iaload, 1) := by decide +kernel
theorem dX4_renewPlan_48 : decode cX4_renewPlan 48 = .ok (.if_icmp .gt 4, 3) := by decide +kernel
theorem dX4_renewPlan_51 : decode cX4_renewPlan 51 = .ok (.return_, 1) := by decide +kernel
theorem dX4_renewPlan_52 : decode cX4_renewPlan 52 = .ok (.aload_n 0, 1) := by decide +kernel
theorem dX4_renewPlan_53 : decode cX4_renewPlan 53 = .ok (.getfield 33, 3) := by decide +kernel
theorem dX4_renewPlan_56 : decode cX4_renewPlan 56 = .ok (.sipush 672, 3) := by decide +kernel
theorem dX4_renewPlan_59 : decode cX4_renewPlan 59 = .ok (.iadd, 1) := by decide +kernel
theorem dX4_renewPlan_60 : decode cX4_renewPlan 60 = .ok (.istore_n 3, 1) := by decide +kernel
theorem dX4_renewPlan_61 : decode cX4_renewPlan 61 = .ok (.aload_n 0, 1) := by decide +kernel
theorem dX4_renewPlan_62 : decode cX4_renewPlan 62 = .ok (.getfield 10, 3) := by decide +kernel
theorem dX4_renewPlan_65 : decode cX4_renewPlan 65 = .ok (.aload_n 1, 1) := by decide +kernel
theorem dX4_renewPlan_66 : decode cX4_renewPlan 66 = .ok (.getfield 144, 3) := by decide +kernel
theorem dX4_renewPlan_69 : decode cX4_renewPlan 69 = .ok (.aload_n 0, 1) := by decide +kernel
theorem dX4_renewPlan_70 : decode cX4_renewPlan 70 = .ok (.getfield 33, 3) := by decide +kernel
theorem dX4_renewPlan_73 : decode cX4_renewPlan 73 = .ok (.iload_n 3, 1) := by decide +kernel
theorem dX4_renewPlan_74 : decode cX4_renewPlan 74 = .ok (.iconst 1, 1) := by decide +kernel
theorem dX4_renewPlan_75 : decode cX4_renewPlan 75 = .ok (.aload_n 1, 1) := by decide +kernel
theorem dX4_renewPlan_76 : decode cX4_renewPlan 76 = .ok (.getfield 138, 3) := by decide +kernel
theorem dX4_renewPlan_79 : decode cX4_renewPlan 79 = .ok (.ishl, 1) := by decide +kernel
theorem dX4_renewPlan_80 : decode cX4_renewPlan 80 = .ok (.invokevirtual 104, 3) := by decide +kernel
theorem dX4_renewPlan_83 : decode cX4_renewPlan 83 = .ok (.istore 4, 2) := by decide +kernel
theorem dX4_renewPlan_85 : decode cX4_renewPlan 85 = .ok (.aload_n 1, 1) := by decide +kernel
theorem dX4_renewPlan_86 : decode cX4_renewPlan 86 = .ok (.aload_n 0, 1) := by decide +kernel
theorem dX4_renewPlan_87 : decode cX4_renewPlan 87 = .ok (.getfield 10, 3) := by decide +kernel
theorem dX4_renewPlan_90 : decode cX4_renewPlan 90 = .ok (.getfield 262, 3) := by decide +kernel
theorem dX4_renewPlan_93 : decode cX4_renewPlan 93 = .ok (.putfield 259, 3) := by decide +kernel
theorem dX4_renewPlan_96 : decode cX4_renewPlan 96 = .ok (.aload_n 1, 1) := by decide +kernel
theorem dX4_renewPlan_97 : decode cX4_renewPlan 97 = .ok (.iload 4, 2) := by decide +kernel
theorem dX4_renewPlan_99 : decode cX4_renewPlan 99 = .ok (.iconst (-1), 1) := by decide +kernel
theorem dX4_renewPlan_100 : decode cX4_renewPlan 100 = .ok (.if_icmp .ne 9, 3) := by decide +kernel
theorem dX4_renewPlan_103 : decode cX4_renewPlan 103 = .ok (.iload_n 3, 1) := by decide +kernel
theorem dX4_renewPlan_104 : decode cX4_renewPlan 104 = .ok (.iconst 1, 1) := by decide +kernel
theorem dX4_renewPlan_105 : decode cX4_renewPlan 105 = .ok (.iadd, 1) := by decide +kernel
theorem dX4_renewPlan_106 : decode cX4_renewPlan 106 = .ok (.goto 5, 3) := by decide +kernel
theorem dX4_renewPlan_109 : decode cX4_renewPlan 109 = .ok (.iload 4, 2) := by decide +kernel
theorem dX4_renewPlan_111 : decode cX4_renewPlan 111 = .ok (.sipush 336, 3) := by decide +kernel
theorem dX4_renewPlan_114 : decode cX4_renewPlan 114 = .ok (.isub, 1) := by decide +kernel
theorem dX4_renewPlan_115 : decode cX4_renewPlan 115 = .ok (.putfield 265, 3) := by decide +kernel
theorem dX4_renewPlan_118 : decode cX4_renewPlan 118 = .ok (.aload_n 0, 1) := by decide +kernel
theorem dX4_renewPlan_119 : decode cX4_renewPlan 119 = .ok (.getfield 33, 3) := by decide +kernel
theorem dX4_renewPlan_122 : decode cX4_renewPlan 122 = .ok (.aload_n 1, 1) := by decide +kernel
theorem dX4_renewPlan_123 : decode cX4_renewPlan 123 = .ok (.getfield 265, 3) := by decide +kernel
theorem dX4_renewPlan_126 : decode cX4_renewPlan 126 = .ok (.if_icmp .ge 14, 3) := by decide +kernel
theorem dX4_renewPlan_129 : decode cX4_renewPlan 129 = .ok (.aload_n 1, 1) := by decide +kernel
theorem dX4_renewPlan_130 : decode cX4_renewPlan 130 = .ok (.getfield 239, 3) := by decide +kernel
theorem dX4_renewPlan_133 : decode cX4_renewPlan 133 = .ok (.iconst (-1), 1) := by decide +kernel
theorem dX4_renewPlan_134 : decode cX4_renewPlan 134 = .ok (.invokestatic 268, 3) := by decide +kernel
theorem dX4_renewPlan_137 : decode cX4_renewPlan 137 = .ok (.goto 25, 3) := by decide +kernel
theorem dX4_renewPlan_140 : decode cX4_renewPlan 140 = .ok (.aload_n 0, 1) := by decide +kernel
theorem dX4_renewPlan_141 : decode cX4_renewPlan 141 = .ok (.getfield 10, 3) := by decide +kernel
theorem dX4_renewPlan_144 : decode cX4_renewPlan 144 = .ok (.aload_n 1, 1) := by decide +kernel
theorem dX4_renewPlan_145 : decode cX4_renewPlan 145 = .ok (.getfield 138, 3) := by decide +kernel
theorem dX4_renewPlan_148 : decode cX4_renewPlan 148 = .ok (.aload_n 0, 1) := by decide +kernel
theorem dX4_renewPlan_149 : decode cX4_renewPlan 149 = .ok (.getfield 33, 3) := by decide +kernel
theorem dX4_renewPlan_152 : decode cX4_renewPlan 152 = .ok (.iload 4, 2) := by decide +kernel
theorem dX4_renewPlan_154 : decode cX4_renewPlan 154 = .ok (.iconst (-1), 1) := by decide +kernel
theorem dX4_renewPlan_155 : decode cX4_renewPlan 155 = .ok (.aload_n 1, 1) := by decide +kernel
theorem dX4_renewPlan_156 : decode cX4_renewPlan 156 = .ok (.getfield 239, 3) := by decide +kernel
theorem dX4_renewPlan_159 : decode cX4_renewPlan 159 = .ok (.invokevirtual 274, 3) := by decide +kernel
theorem dX4_renewPlan_162 : decode cX4_renewPlan 162 = .ok (.return_, 1) := by decide +kernel
theorem dX4_countCome_0 : decode cX4_countCome 0 = .ok (.iconst 0, 1) := by decide +kernel
theorem dX4_countCome_1 : decode cX4_countCome 1 = .ok (.istore_n 1, 1) := by decide +kernel
theorem dX4_countCome_2 : decode cX4_countCome 2 = .ok (.iconst 0, 1) := by decide +kernel
theorem dX4_countCome_3 : decode cX4_countCome 3 = .ok (.istore_n 2, 1) := by decide +kernel
theorem dX4_countCome_4 : decode cX4_countCome 4 = .ok (.iload_n 2, 1) := by decide +kernel
theorem dX4_countCome_5 : decode cX4_countCome 5 = .ok (.aload_n 0, 1) := by decide +kernel
theorem dX4_countCome_6 : decode cX4_countCome 6 = .ok (.getfield 29, 3) := by decide +kernel
theorem dX4_countCome_9 : decode cX4_countCome 9 = .ok (.if_icmp .ge 25, 3) := by decide +kernel
theorem dX4_countCome_12 : decode cX4_countCome 12 = .ok (.aload_n 0, 1) := by decide +kernel
theorem dX4_countCome_13 : decode cX4_countCome 13 = .ok (.getfield 25, 3) := by decide +kernel
theorem dX4_countCome_16 : decode cX4_countCome 16 = .ok (.iload_n 2, 1) := by decide +kernel
theorem dX4_countCome_17 : decode cX4_countCome 17 = .ok (.aaload, 1) := by decide +kernel
theorem dX4_countCome_18 : decode cX4_countCome 18 = .ok (.getfield 156, 3) := by decide +kernel
theorem dX4_countCome_21 : decode cX4_countCome 21 = .ok (.iconst (-1), 1) := by decide +kernel
theorem dX4_countCome_22 : decode cX4_countCome 22 = .ok (.if_icmp .eq 6, 3) := by decide +kernel
theorem dX4_countCome_25 : decode cX4_countCome 25 = .ok (.iinc 1 1, 3) := by decide +kernel
theorem dX4_countCome_28 : decode cX4_countCome 28 = .ok (.iinc 2 1, 3) := by decide +kernel
theorem dX4_countCome_31 : decode cX4_countCome 31 = .ok (.goto (-27), 3) := by decide +kernel
theorem dX4_countCome_34 : decode cX4_countCome 34 = .ok (.iload_n 1, 1) := by decide +kernel
theorem dX4_countCome_35 : decode cX4_countCome 35 = .ok (.ireturn, 1) := by decide +kernel
theorem dX4_countRiding_0 : decode cX4_countRiding 0 = .ok (.iconst 0, 1) := by decide +kernel
theorem dX4_countRiding_1 : decode cX4_countRiding 1 = .ok (.istore_n 1, 1) := by decide +kernel
theorem dX4_countRiding_2 : decode cX4_countRiding 2 = .ok (.iconst 0, 1) := by decide +kernel
theorem dX4_countRiding_3 : decode cX4_countRiding 3 = .ok (.istore_n 2, 1) := by decide +kernel
theorem dX4_countRiding_4 : decode cX4_countRiding 4 = .ok (.iload_n 2, 1) := by decide +kernel
theorem dX4_countRiding_5 : decode cX4_countRiding 5 = .ok (.aload_n 0, 1) := by decide +kernel
theorem dX4_countRiding_6 : decode cX4_countRiding 6 = .ok (.getfield 29, 3) := by decide +kernel
theorem dX4_countRiding_9 : decode cX4_countRiding 9 = .ok (.if_icmp .ge 25, 3) := by decide +kernel
theorem dX4_countRiding_12 : decode cX4_countRiding 12 = .ok (.aload_n 0, 1) := by decide +kernel
theorem dX4_countRiding_13 : decode cX4_countRiding 13 = .ok (.getfield 25, 3) := by decide +kernel
theorem dX4_countRiding_16 : decode cX4_countRiding 16 = .ok (.iload_n 2, 1) := by decide +kernel
theorem dX4_countRiding_17 : decode cX4_countRiding 17 = .ok (.aaload, 1) := by decide +kernel
theorem dX4_countRiding_18 : decode cX4_countRiding 18 = .ok (.getfield 147, 3) := by decide +kernel
theorem dX4_countRiding_21 : decode cX4_countRiding 21 = .ok (.iconst (-1), 1) := by decide +kernel
theorem dX4_countRiding_22 : decode cX4_countRiding 22 = .ok (.if_icmp .eq 6, 3) := by decide +kernel
theorem dX4_countRiding_25 : decode cX4_countRiding 25 = .ok (.iinc 1 1, 3) := by decide +kernel
theorem dX4_countRiding_28 : decode cX4_countRiding 28 = .ok (.iinc 2 1, 3) := by decide +kernel
theorem dX4_countRiding_31 : decode cX4_countRiding 31 = .ok (.goto (-27), 3) := by decide +kernel
theorem dX4_countRiding_34 : decode cX4_countRiding 34 = .ok (.iload_n 1, 1) := by decide +kernel
theorem dX4_countRiding_35 : decode cX4_countRiding 35 = .ok (.ireturn, 1) := by decide +kernel
