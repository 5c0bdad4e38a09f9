theorem dX0_init_0 : decode cX0_init 0 = .ok (.aload_n 0, 1) := by decide +kernel
theorem dX0_init_1 : decode cX0_init 1 = .ok (.invokespecial 3, 3) := by decide +kernel
theorem dX0_init_4 : decode cX0_init 4 = .ok (.aload_n 0, 1) := by decide +kernel
theorem dX0_init_5 : decode cX0_init 5 = .ok (.iload_n 1, 1) := by decide +kernel
theorem dX0_init_6 : decode cX0_init 6 = .ok (.putfield 9, 3) := by decide +kernel
theorem dX0_init_9 : decode cX0_init 9 = .ok (.aload_n 0, 1) := by decide +kernel
theorem dX0_init_10 : decode cX0_init 10 = .ok (.iload_n 2, 1) := by decide +kernel
theorem dX0_init_11 : decode cX0_init 11 = .ok (.putfield 15, 3) := by decide +kernel
theorem dX0_init_14 : decode cX0_init 14 = .ok (.aload_n 0, 1) := by decide +kernel
theorem dX0_init_15 : decode cX0_init 15 = .ok (.iload_n 3, 1) := by decide +kernel
theorem dX0_init_16 : decode cX0_init 16 = .ok (.putfield 18, 3) := by decide +kernel
theorem dX0_init_19 : decode cX0_init 19 = .ok (.aload_n 0, 1) := by decide +kernel
theorem dX0_init_20 : decode cX0_init 20 = .ok (.bipush 60, 2) := by decide +kernel
theorem dX0_init_22 : decode cX0_init 22 = .ok (.putfield 21, 3) := by decide +kernel
theorem dX0_init_25 : decode cX0_init 25 = .ok (.aload_n 0, 1) := by decide +kernel
theorem dX0_init_26 : decode cX0_init 26 = .ok (.iconst (-1), 1) := by decide +kernel
theorem dX0_init_27 : decode cX0_init 27 = .ok (.putfield 24, 3) := by decide +kernel
theorem dX0_init_30 : decode cX0_init 30 = .ok (.aload_n 0, 1) := by decide +kernel
theorem dX0_init_31 : decode cX0_init 31 = .ok (.iconst (-1), 1) := by decide +kernel
theorem dX0_init_32 : decode cX0_init 32 = .ok (.putfield 27, 3) := by decide +kernel
theorem dX0_init_35 : decode cX0_init 35 = .ok (.return_, 1) := by decide +kernel
theorem dX0_copyFrom_0 : decode cX0_copyFrom 0 = .ok (.aload_n 0, 1) := by decide +kernel
theorem dX0_copyFrom_1 : decode cX0_copyFrom 1 = .ok (.aload_n 1, 1) := by decide +kernel
theorem dX0_copyFrom_2 : decode cX0_copyFrom 2 = .ok (.getfield 9, 3) := by decide +kernel
theorem dX0_copyFrom_5 : decode cX0_copyFrom 5 = .ok (.putfield 9, 3) := by decide +kernel
theorem dX0_copyFrom_8 : decode cX0_copyFrom 8 = .ok (.aload_n 0, 1) := by decide +kernel
theorem dX0_copyFrom_9 : decode cX0_copyFrom 9 = .ok (.aload_n 1, 1) := by decide +kernel
theorem dX0_copyFrom_10 : decode cX0_copyFrom 10 = .ok (.getfield 15, 3) := by decide +kernel
theorem dX0_copyFrom_13 : decode cX0_copyFrom 13 = .ok (.putfield 15, 3) := by decide +kernel
theorem dX0_copyFrom_16 : decode cX0_copyFrom 16 = .ok (.aload_n 0, 1) := by decide +kernel
theorem dX0_copyFrom_17 : decode cX0_copyFrom 17 = .ok (.aload_n 1, 1) := by decide +kernel
theorem dX0_copyFrom_18 : decode cX0_copyFrom 18 = .ok (.getfield 18, 3) := by decide +kernel
theorem dX0_copyFrom_21 : decode cX0_copyFrom 21 = .ok (.putfield 18, 3) := by decide +kernel
theorem dX0_copyFrom_24 : decode cX0_copyFrom 24 = .ok (.aload_n 0, 1) := by decide +kernel
theorem dX0_copyFrom_25 : decode cX0_copyFrom 25 = .ok (.aload_n 1, 1) := by decide +kernel
theorem dX0_copyFrom_26 : decode cX0_copyFrom 26 = .ok (.getfield 21, 3) := by decide +kernel
theorem dX0_copyFrom_29 : decode cX0_copyFrom 29 = .ok (.putfield 21, 3) := by decide +kernel
theorem dX0_copyFrom_32 : decode cX0_copyFrom 32 = .ok (.aload_n 0, 1) := by decide +kernel
theorem dX0_copyFrom_33 : decode cX0_copyFrom 33 = .ok (.aload_n 1, 1) := by decide +kernel
theorem dX0_copyFrom_34 : decode cX0_copyFrom 34 = .ok (.getfield 30, 3) := by decide +kernel
theorem dX0_copyFrom_37 : decode cX0_copyFrom 37 = .ok (.putfield 30, 3) := by decide +kernel
theorem dX0_copyFrom_40 : decode cX0_copyFrom 40 = .ok (.aload_n 0, 1) := by decide +kernel
theorem dX0_copyFrom_41 : decode cX0_copyFrom 41 = .ok (.aload_n 1, 1) := by decide +kernel
theorem dX0_copyFrom_42 : decode cX0_copyFrom 42 = .ok (.getfield 33, 3) := by decide +kernel
theorem dX0_copyFrom_45 : decode cX0_copyFrom 45 = .ok (.putfield 33, 3) := by decide +kernel
theorem dX0_copyFrom_48 : decode cX0_copyFrom 48 = .ok (.aload_n 0, 1) := by decide +kernel
theorem dX0_copyFrom_49 : decode cX0_copyFrom 49 = .ok (.aload_n 1, 1) := by decide +kernel
theorem dX0_copyFrom_50 : decode cX0_copyFrom 50 = .ok (.getfield 24, 3) := by decide +kernel
theorem dX0_copyFrom_53 : decode cX0_copyFrom 53 = .ok (.putfield 24, 3) := by decide +kernel
theorem dX0_copyFrom_56 : decode cX0_copyFrom 56 = .ok (.aload_n 0, 1) := by decide +kernel
theorem dX0_copyFrom_57 : decode cX0_copyFrom 57 = .ok (.aload_n 1, 1) := by decide +kernel
theorem dX0_copyFrom_58 : decode cX0_copyFrom 58 = .ok (.getfield 27, 3) := by decide +kernel
theorem dX0_copyFrom_61 : decode cX0_copyFrom 61 = .ok (.putfield 27, 3) := by decide +kernel
theorem dX0_copyFrom_64 : decode cX0_copyFrom 64 = .ok (.aload_n 0, 1) := by decide +kernel
theorem dX0_copyFrom_65 : decode cX0_copyFrom 65 = .ok (.aload_n 1, 1) := by decide +kernel
theorem dX0_copyFrom_66 : decode cX0_copyFrom 66 = .ok (.getfield 36, 3) := by decide +kernel
theorem dX0_copyFrom_69 : decode cX0_copyFrom 69 = .ok (.putfield 36, 3) := by decide +kernel
theorem dX0_copyFrom_72 : decode cX0_copyFrom 72 = .ok (.aload_n 0, 1) := by decide +kernel
theorem dX0_copyFrom_73 : decode cX0_copyFrom 73 = .ok (.aload_n 1, 1) := by decide +kernel
theorem dX0_copyFrom_74 : decode cX0_copyFrom 74 = .ok (.getfield 39, 3) := by decide +kernel
theorem dX0_copyFrom_77 : decode cX0_copyFrom 77 = .ok (.putfield 39, 3) := by decide +kernel
theorem dX0_copyFrom_80 : decode cX0_copyFrom 80 = .ok (.aload_n 0, 1) := by decide +kernel
theorem dX0_copyFrom_81 : decode cX0_copyFrom 81 = .ok (.aload_n 1, 1) := by decide +kernel
theorem dX0_copyFrom_82 : decode cX0_copyFrom 82 = .ok (.getfield 42, 3) := by decide +kernel
theorem dX0_copyFrom_85 : decode cX0_copyFrom 85 = .ok (.putfield 42, 3) := by decide +kernel
theorem dX0_copyFrom_88 : decode cX0_copyFrom 88 = .ok (.return_, 1) := by decide +kernel
theorem dX0_stands_0 : decode cX0_stands 0 = .ok (.aload_n 0, 1) := by decide +kernel
theorem dX0_stands_1 : decode cX0_stands 1 = .ok (.getfield 33, 3) := by decide +kernel
theorem dX0_stands_4 : decode cX0_stands 4 = .ok (.ifCond .ne 7, 3) := by decide +kernel
theorem dX0_stands_7 : decode cX0_stands 7 = .ok (.iconst 1, 1) := by decide +kernel
theorem dX0_stands_8 : decode cX0_stands 8 = .ok (.goto 4, 3) := by decide +kernel
theorem dX0_stands_11 : decode cX0_stands 11 = .ok (.iconst 0, 1) := by decide +kernel
theorem dX0_stands_12 : decode cX0_stands 12 = .ok (.ireturn, 1) := by decide +kernel
theorem dX0_canPump_0 : decode cX0_canPump 0 = .ok (.aload_n 0, 1) := by decide +kernel
theorem dX0_canPump_1 : decode cX0_canPump 1 = .ok (.invokevirtual 46, 3) := by decide +kernel
theorem dX0_canPump_4 : decode cX0_canPump 4 = .ok (.ifCond .eq 27, 3) := by decide +kernel
theorem dX0_canPump_7 : decode cX0_canPump 7 = .ok (.aload_n 0, 1) := by decide +kernel
theorem dX0_canPump_8 : decode cX0_canPump 8 = .ok (.getfield 30, 3) := by decide +kernel
theorem dX0_canPump_11 : decode cX0_canPump 11 = .ok (.bipush 20, 2) := by decide +kernel
theorem dX0_canPump_13 : decode cX0_canPump 13 = .ok (.if_icmp .lt 18, 3) := by decide +kernel
theorem dX0_canPump_16 : decode cX0_canPump 16 = .ok (.aload_n 0, 1) := by decide +kernel
theorem dX0_canPump_17 : decode cX0_canPump 17 = .ok (.getfield 18, 3) := by decide +kernel
theorem dX0_canPump_20 : decode cX0_canPump 20 = .ok (.aload_n 0, 1) := by decide +kernel
theorem dX0_canPump_21 : decode cX0_canPump 21 = .ok (.getfield 30, 3) := by decide +kernel
theorem dX0_canPump_24 : decode cX0_canPump 24 = .ok (.imul, 1) := by decide +kernel
theorem dX0_canPump_25 : decode cX0_canPump 25 = .ok (.bipush 20, 2) := by decide +kernel
theorem dX0_canPump_27 : decode cX0_canPump 27 = .ok (.idiv, 1) := by decide +kernel
theorem dX0_canPump_28 : decode cX0_canPump 28 = .ok (.goto 4, 3) := by decide +kernel
theorem dX0_canPump_31 : decode cX0_canPump 31 = .ok (.iconst 0, 1) := by decide +kernel
theorem dX0_canPump_32 : decode cX0_canPump 32 = .ok (.ireturn, 1) := by decide +kernel
theorem dX0_setOut_0 : decode cX0_setOut 0 = .ok (.aload_n 0, 1) := by decide +kernel
theorem dX0_setOut_1 : decode cX0_setOut 1 = .ok (.iload_n 1, 1) := by decide +kernel
theorem dX0_setOut_2 : decode cX0_setOut 2 = .ok (.putfield 24, 3) := by decide +kernel
theorem dX0_setOut_5 : decode cX0_setOut 5 = .ok (.aload_n 0, 1) := by decide +kernel
theorem dX0_setOut_6 : decode cX0_setOut 6 = .ok (.iload_n 2, 1) := by decide +kernel
theorem dX0_setOut_7 : decode cX0_setOut 7 = .ok (.iconst 5, 1) := by decide +kernel
theorem dX0_setOut_8 : decode cX0_setOut 8 = .ok (.aload_n 0, 1) := by decide +kernel
theorem dX0_setOut_9 : decode cX0_setOut 9 = .ok (.getfield 15, 3) := by decide +kernel
theorem dX0_setOut_12 : decode cX0_setOut 12 = .ok (.isub, 1) := by decide +kernel
theorem dX0_setOut_13 : decode cX0_setOut 13 = .ok (.imul, 1) := by decide +kernel
theorem dX0_setOut_14 : decode cX0_setOut 14 = .ok (.putfield 33, 3) := by decide +kernel
theorem dX0_setOut_17 : decode cX0_setOut 17 = .ok (.return_, 1) := by decide +kernel
theorem dX0_fire_0 : decode cX0_fire 0 = .ok (.aload_n 0, 1) := by decide +kernel
theorem dX0_fire_1 : decode cX0_fire 1 = .ok (.getfield 21, 3) := by decide +kernel
theorem dX0_fire_4 : decode cX0_fire 4 = .ok (.ifCond .le 31, 3) := by decide +kernel
theorem dX0_fire_7 : decode cX0_fire 7 = .ok (.aload_n 0, 1) := by decide +kernel
theorem dX0_fire_8 : decode cX0_fire 8 = .ok (.dup, 1) := by decide +kernel
theorem dX0_fire_9 : decode cX0_fire 9 = .ok (.getfield 21, 3) := by decide +kernel
theorem dX0_fire_12 : decode cX0_fire 12 = .ok (.iconst 1, 1) := by decide +kernel
theorem dX0_fire_13 : decode cX0_fire 13 = .ok (.isub, 1) := by decide +kernel
theorem dX0_fire_14 : decode cX0_fire 14 = .ok (.putfield 21, 3) := by decide +kernel
theorem dX0_fire_17 : decode cX0_fire 17 = .ok (.aload_n 0, 1) := by decide +kernel
theorem dX0_fire_18 : decode cX0_fire 18 = .ok (.bipush 100, 2) := by decide +kernel
theorem dX0_fire_20 : decode cX0_fire 20 = .ok (.aload_n 0, 1) := by decide +kernel
theorem dX0_fire_21 : decode cX0_fire 21 = .ok (.getfield 30, 3) := by decide +kernel
theorem dX0_fire_24 : decode cX0_fire 24 = .ok (.iconst 4, 1) := by decide +kernel
theorem dX0_fire_25 : decode cX0_fire 25 = .ok (.iadd, 1) := by decide +kernel
theorem dX0_fire_26 : decode cX0_fire 26 = .ok (.invokestatic 50, 3) := by decide +kernel
theorem dX0_fire_29 : decode cX0_fire 29 = .ok (.putfield 30, 3) := by decide +kernel
theorem dX0_fire_32 : decode cX0_fire 32 = .ok (.goto 17, 3) := by decide +kernel
theorem dX0_fire_35 : decode cX0_fire 35 = .ok (.aload_n 0, 1) := by decide +kernel
theorem dX0_fire_36 : decode cX0_fire 36 = .ok (.iconst 0, 1) := by decide +kernel
theorem dX0_fire_37 : decode cX0_fire 37 = .ok (.aload_n 0, 1) := by decide +kernel
theorem dX0_fire_38 : decode cX0_fire 38 = .ok (.getfield 30, 3) := by decide +kernel
theorem dX0_fire_41 : decode cX0_fire 41 = .ok (.iconst 3, 1) := by decide +kernel
theorem dX0_fire_42 : decode cX0_fire 42 = .ok (.isub, 1) := by decide +kernel
theorem dX0_fire_43 : decode cX0_fire 43 = .ok (.invokestatic 56, 3) := by decide +kernel
theorem dX0_fire_46 : decode cX0_fire 46 = .ok (.putfield 30, 3) := by decide +kernel
theorem dX0_fire_49 : decode cX0_fire 49 = .ok (.return_, 1) := by decide +kernel
theorem dX0_driveAMinute_0 : decode cX0_driveAMinute 0 = .ok (.aload_n 0, 1) := by decide +kernel
theorem dX0_driveAMinute_1 : decode cX0_driveAMinute 1 = .ok (.invokevirtual 46, 3) := by decide +kernel
theorem dX0_driveAMinute_4 : decode cX0_driveAMinute 4 = .ok (.ifCond .eq 4, 3) := by decide +kernel
theorem dX0_driveAMinute_7 : decode cX0_driveAMinute 7 = .ok (.return_, 1) := by decide +kernel
theorem dX0_driveAMinute_8 : decode cX0_driveAMinute 8 = .ok (.aload_n 0, 1) := by decide +kernel
theorem dX0_driveAMinute_9 : decode cX0_driveAMinute 9 = .ok (.dup, 1) := by decide +kernel
theorem dX0_driveAMinute_10 : decode cX0_driveAMinute 10 = .ok (.getfield 33, 3) := by decide +kernel
theorem dX0_driveAMinute_13 : decode cX0_driveAMinute 13 = .ok (.iconst 1, 1) := by decide +kernel
theorem dX0_driveAMinute_14 : decode cX0_driveAMinute 14 = .ok (.isub, 1) := by decide +kernel
theorem dX0_driveAMinute_15 : decode cX0_driveAMinute 15 = .ok (.putfield 33, 3) := by decide +kernel
theorem dX0_driveAMinute_18 : decode cX0_driveAMinute 18 = .ok (.aload_n 0, 1) := by decide +kernel
theorem dX0_driveAMinute_19 : decode cX0_driveAMinute 19 = .ok (.getfield 33, 3) := by decide +kernel
theorem dX0_driveAMinute_22 : decode cX0_driveAMinute 22 = .ok (.ifCond .ne 16, 3) := by decide +kernel
theorem dX0_driveAMinute_25 : decode cX0_driveAMinute 25 = .ok (.aload_n 0, 1) := by decide +kernel
theorem dX0_driveAMinute_26 : decode cX0_driveAMinute 26 = .ok (.aload_n 0, 1) := by decide +kernel
theorem dX0_driveAMinute_27 : decode cX0_driveAMinute 27 = .ok (.getfield 24, 3) := by decide +kernel
theorem dX0_driveAMinute_30 : decode cX0_driveAMinute 30 = .ok (.putfield 9, 3) := by decide +kernel
theorem dX0_driveAMinute_33 : decode cX0_driveAMinute 33 = .ok (.aload_n 0, 1) := by decide +kernel
theorem dX0_driveAMinute_34 : decode cX0_driveAMinute 34 = .ok (.iconst (-1), 1) := by decide +kernel
theorem dX0_driveAMinute_35 : decode cX0_driveAMinute 35 = .ok (.putfield 24, 3) := by decide +kernel
theorem dX0_driveAMinute_38 : decode cX0_driveAMinute 38 = .ok (.return_, 1) := by decide +kernel
theorem dX0_spendSteam_0 : decode cX0_spendSteam 0 = .ok (.aload_n 0, 1) := by decide +kernel
theorem dX0_spendSteam_1 : decode cX0_spendSteam 1 = .ok (.getfield 39, 3) := by decide +kernel
theorem dX0_spendSteam_4 : decode cX0_spendSteam 4 = .ok (.ifCond .le 17, 3) := by decide +kernel
theorem dX0_spendSteam_7 : decode cX0_spendSteam 7 = .ok (.aload_n 0, 1) := by decide +kernel
theorem dX0_spendSteam_8 : decode cX0_spendSteam 8 = .ok (.iconst 0, 1) := by decide +kernel
theorem dX0_spendSteam_9 : decode cX0_spendSteam 9 = .ok (.aload_n 0, 1) := by decide +kernel
theorem dX0_spendSteam_10 : decode cX0_spendSteam 10 = .ok (.getfield 30, 3) := by decide +kernel
theorem dX0_spendSteam_13 : decode cX0_spendSteam 13 = .ok (.iconst 2, 1) := by decide +kernel
theorem dX0_spendSteam_14 : decode cX0_spendSteam 14 = .ok (.isub, 1) := by decide +kernel
theorem dX0_spendSteam_15 : decode cX0_spendSteam 15 = .ok (.invokestatic 56, 3) := by decide +kernel
theorem dX0_spendSteam_18 : decode cX0_spendSteam 18 = .ok (.putfield 30, 3) := by decide +kernel
theorem dX0_spendSteam_21 : decode cX0_spendSteam 21 = .ok (.return_, 1) := by decide +kernel
theorem dX1_init_0 : decode cX1_init 0 = .ok (.aload_n 0, 1) := by decide +kernel
theorem dX1_init_1 : decode cX1_init 1 = .ok (.invokespecial 3, 3) := by decide +kernel
theorem dX1_init_4 : decode cX1_init 4 = .ok (.aload_n 0, 1) := by decide +kernel
theorem dX1_init_5 : decode cX1_init 5 = .ok (.sipush 140, 3) := by decide +kernel
theorem dX1_init_8 : decode cX1_init 8 = .ok (.newarray .int, 2) := by decide +kernel
theorem dX1_init_10 : decode cX1_init 10 = .ok (.putfield 9, 3) := by decide +kernel
theorem dX1_init_13 : decode cX1_init 13 = .ok (.aload_n 0, 1) := by decide +kernel
theorem dX1_init_14 : decode cX1_init 14 = .ok (.sipush 140, 3) := by decide +kernel
theorem dX1_init_17 : decode cX1_init 17 = .ok (.newarray .int, 2) := by decide +kernel
theorem dX1_init_19 : decode cX1_init 19 = .ok (.putfield 15, 3) := by decide +kernel
theorem dX1_init_22 : decode cX1_init 22 = .ok (.aload_n 0, 1) := by decide +kernel
theorem dX1_init_23 : decode cX1_init 23 = .ok (.sipush 140, 3) := by decide +kernel
theorem dX1_init_26 : decode cX1_init 26 = .ok (.newarray .int, 2) := by decide +kernel
theorem dX1_init_28 : decode cX1_init 28 = .ok (.putfield 18, 3) := by decide +kernel
theorem dX1_init_31 : decode cX1_init 31 = .ok (.return_, 1) := by decide +kernel
theorem dX1_put_0 : decode cX1_put 0 = .ok (.aload_n 0, 1) := by decide +kernel
theorem dX1_put_1 : decode cX1_put 1 = .ok (.iload_n 1, 1) := by decide +kernel
theorem dX1_put_2 : decode cX1_put 2 = .ok (.invokevirtual 21, 3) := by decide +kernel
theorem dX1_put_5 : decode cX1_put 5 = .ok (.ifCond .eq 17, 3) := by decide +kernel
theorem dX1_put_8 : decode cX1_put 8 = .ok (.aload_n 0, 1) := by decide +kernel
theorem dX1_put_9 : decode cX1_put 9 = .ok (.getfield 9, 3) := by decide +kernel
theorem dX1_put_12 : decode cX1_put 12 = .ok (.iload_n 1, 1) := by decide +kernel
theorem dX1_put_13 : decode cX1_put 13 = .ok (.iload_n 2, 1) := by decide +kernel
theorem dX1_put_14 : decode cX1_put 14 = .ok (.iastore, 1) := by decide +kernel
theorem dX1_put_15 : decode cX1_put 15 = .ok (.aload_n 0, 1) := by decide +kernel
theorem dX1_put_16 : decode cX1_put 16 = .ok (.getfield 15, 3) := by decide +kernel
theorem dX1_put_19 : decode cX1_put 19 = .ok (.iload_n 1, 1) := by decide +kernel
theorem dX1_put_20 : decode cX1_put 20 = .ok (.iload_n 3, 1) := by decide +kernel
theorem dX1_put_21 : decode cX1_put 21 = .ok (.iastore, 1) := by decide +kernel
theorem dX1_put_22 : decode cX1_put 22 = .ok (.return_, 1) := by decide +kernel
theorem dX1_kindOf_0 : decode cX1_kindOf 0 = .ok (.iload_n 1, 1) := by decide +kernel
theorem dX1_kindOf_1 : decode cX1_kindOf 1 = .ok (.ifCond .lt 19, 3) := by decide +kernel
theorem dX1_kindOf_4 : decode cX1_kindOf 4 = .ok (.iload_n 1, 1) := by decide +kernel
theorem dX1_kindOf_5 : decode cX1_kindOf 5 = .ok (.sipush 140, 3) := by decide +kernel
theorem dX1_kindOf_8 : decode cX1_kindOf 8 = .ok (.if_icmp .ge 12, 3) := by decide +kernel
theorem dX1_kindOf_11 : decode cX1_kindOf 11 = .ok (.aload_n 0, 1) := by decide +kernel
theorem dX1_kindOf_12 : decode cX1_kindOf 12 = .ok (.getfield 9, 3) := by decide +kernel
theorem dX1_kindOf_15 : decode cX1_kindOf 15 = .ok (.iload_n 1, 1) := by decide +kernel
theorem dX1_kindOf_16 : decode cX1_kindOf 16 = .ok (.iaload, 1) := by decide +kernel
theorem dX1_kindOf_17 : decode cX1_kindOf 17 = .ok (.goto 4, 3) := by decide +kernel
theorem dX1_kindOf_20 : decode cX1_kindOf 20 = .ok (.iconst (-1), 1) := by decide +kernel
theorem dX1_kindOf_21 : decode cX1_kindOf 21 = .ok (.ireturn, 1) := by decide +kernel
theorem dX1_isStreet_0 : decode cX1_isStreet 0 = .ok (.aload_n 0, 1) := by decide +kernel
theorem dX1_isStreet_1 : decode cX1_isStreet 1 = .ok (.iload_n 1, 1) := by decide +kernel
theorem dX1_isStreet_2 : decode cX1_isStreet 2 = .ok (.invokevirtual 25, 3) := by decide +kernel
theorem dX1_isStreet_5 : decode cX1_isStreet 5 = .ok (.ifCond .ne 7, 3) := by decide +kernel
theorem dX1_isStreet_8 : decode cX1_isStreet 8 = .ok (.iconst 1, 1) := by decide +kernel
theorem dX1_isStreet_9 : decode cX1_isStreet 9 = .ok (.goto 4, 3) := by decide +kernel
theorem dX1_isStreet_12 : decode cX1_isStreet 12 = .ok (.iconst 0, 1) := by decide +kernel
theorem dX1_isStreet_13 : decode cX1_isStreet 13 = .ok (.ireturn, 1) := by decide +kernel
theorem dX1_stepsBetween_0 : decode cX1_stepsBetween 0 = .ok (.aload_n 0, 1) := by decide +kernel
theorem dX1_stepsBetween_1 : decode cX1_stepsBetween 1 = .ok (.iload_n 1, 1) := by decide +kernel
theorem dX1_stepsBetween_2 : decode cX1_stepsBetween 2 = .ok (.invokevirtual 21, 3) := by decide +kernel
theorem dX1_stepsBetween_5 : decode cX1_stepsBetween 5 = .ok (.ifCond .eq 11, 3) := by decide +kernel
theorem dX1_stepsBetween_8 : decode cX1_stepsBetween 8 = .ok (.aload_n 0, 1) := by decide +kernel
theorem dX1_stepsBetween_9 : decode cX1_stepsBetween 9 = .ok (.iload_n 2, 1) := by decide +kernel
theorem dX1_stepsBetween_10 : decode cX1_stepsBetween 10 = .ok (.invokevirtual 21, 3) := by decide +kernel
theorem dX1_stepsBetween_13 : decode cX1_stepsBetween 13 = .ok (.ifCond .ne 5, 3) := by decide +kernel
theorem dX1_stepsBetween_16 : decode cX1_stepsBetween 16 = .ok (.iconst (-1), 1) := by decide +kernel
theorem dX1_stepsBetween_17 : decode cX1_stepsBetween 17 = .ok (.ireturn, 1) := by decide +kernel
theorem dX1_stepsBetween_18 : decode cX1_stepsBetween 18 = .ok (.aload_n 0, 1) := by decide +kernel
theorem dX1_stepsBetween_19 : decode cX1_stepsBetween 19 = .ok (.getfield 18, 3) := by decide +kernel
theorem dX1_stepsBetween_22 : decode cX1_stepsBetween 22 = .ok (.iconst (-1), 1) := by decide +kernel
theorem dX1_stepsBetween_23 : decode cX1_stepsBetween 23 = .ok (.invokestatic 29, 3) := by decide +kernel
theorem dX1_stepsBetween_26 : decode cX1_stepsBetween 26 = .ok (.aload_n 0, 1) := by decide +kernel
theorem dX1_stepsBetween_27 : decode cX1_stepsBetween 27 = .ok (.getfield 18, 3) := by decide +kernel
theorem dX1_stepsBetween_30 : decode cX1_stepsBetween 30 = .ok (.iload_n 1, 1) := by decide +kernel
theorem dX1_stepsBetween_31 : decode cX1_stepsBetween 31 = .ok (.iconst 0, 1) := by decide +kernel
theorem dX1_stepsBetween_32 : decode cX1_stepsBetween 32 = .ok (.iastore, 1) := by decide +kernel
theorem dX1_stepsBetween_33 : decode cX1_stepsBetween 33 = .ok (.iconst 1, 1) := by decide +kernel
theorem dX1_stepsBetween_34 : decode cX1_stepsBetween 34 = .ok (.istore_n 3, 1) := by decide +kernel
theorem dX1_stepsBetween_35 : decode cX1_stepsBetween 35 = .ok (.iconst 0, 1) := by decide +kernel
theorem dX1_stepsBetween_36 : decode cX1_stepsBetween 36 = .ok (.istore 4, 2) := by decide +kernel
theorem dX1_stepsBetween_38 : decode cX1_stepsBetween 38 = .ok (.iload 4, 2) := by decide +kernel
theorem dX1_stepsBetween_40 : decode cX1_stepsBetween 40 = .ok (.sipush 140, 3) := by decide +kernel
theorem dX1_stepsBetween_43 : decode cX1_stepsBetween 43 = .ok (.if_icmp .ge 30, 3) := by decide +kernel
theorem dX1_stepsBetween_46 : decode cX1_stepsBetween 46 = .ok (.iload_n 3, 1) := by decide +kernel
theorem dX1_stepsBetween_47 : decode cX1_stepsBetween 47 = .ok (.ifCond .le 26, 3) := by decide +kernel
theorem dX1_stepsBetween_50 : decode cX1_stepsBetween 50 = .ok (.aload_n 0, 1) := by decide +kernel
theorem dX1_stepsBetween_51 : decode cX1_stepsBetween 51 = .ok (.getfield 18, 3) := by decide +kernel
theorem dX1_stepsBetween_54 : decode cX1_stepsBetween 54 = .ok (.iload_n 2, 1) := by decide +kernel
theorem dX1_stepsBetween_55 : decode cX1_stepsBetween 55 = .ok (.iaload, 1) := by decide +kernel
theorem dX1_stepsBetween_56 : decode cX1_stepsBetween 56 = .ok (.iconst (-1), 1) := by decide +kernel
theorem dX1_stepsBetween_57 : decode cX1_stepsBetween 57 = .ok (.if_icmp .ne 16, 3) := by decide +kernel
theorem dX1_stepsBetween_60 : decode cX1_stepsBetween 60 = .ok (.aload_n 0, 1) := by decide +kernel
theorem dX1_stepsBetween_61 : decode cX1_stepsBetween 61 = .ok (.iload 4, 2) := by decide +kernel
theorem dX1_stepsBetween_63 : decode cX1_stepsBetween 63 = .ok (.invokevirtual 35, 3) := by decide +kernel
theorem dX1_stepsBetween_66 : decode cX1_stepsBetween 66 = .ok (.istore_n 3, 1) := by decide +kernel
theorem dX1_stepsBetween_67 : decode cX1_stepsBetween 67 = .ok (.iinc 4 1, 3) := by decide +kernel
theorem dX1_stepsBetween_70 : decode cX1_stepsBetween 70 = .ok (.goto (-32), 3) := by decide +kernel
theorem dX1_stepsBetween_73 : decode cX1_stepsBetween 73 = .ok (.aload_n 0, 1) := by decide +kernel
theorem dX1_stepsBetween_74 : decode cX1_stepsBetween 74 = .ok (.getfield 18, 3) := by decide +kernel
theorem dX1_stepsBetween_77 : decode cX1_stepsBetween 77 = .ok (.iload_n 2, 1) := by decide +kernel
theorem dX1_stepsBetween_78 : decode cX1_stepsBetween 78 = .ok (.iaload, 1) := by decide +kernel
theorem dX1_stepsBetween_79 : decode cX1_stepsBetween 79 = .ok (.ireturn, 1) := by decide +kernel
theorem dX1_spread_0 : decode cX1_spread 0 = .ok (.iconst 0, 1) := by decide +kernel
theorem dX1_spread_1 : decode cX1_spread 1 = .ok (.istore_n 2, 1) := by decide +kernel
theorem dX1_spread_2 : decode cX1_spread 2 = .ok (.iconst 0, 1) := by decide +kernel
theorem dX1_spread_3 : decode cX1_spread 3 = .ok (.istore_n 3, 1) := by decide +kernel
theorem dX1_spread_4 : decode cX1_spread 4 = .ok (.iload_n 3, 1) := by decide +kernel
theorem dX1_spread_5 : decode cX1_spread 5 = .ok (.sipush 140, 3) := by decide +kernel
theorem dX1_spread_8 : decode cX1_spread 8 = .ok (.if_icmp .ge 95, 3) := by decide +kernel
theorem dX1_spread_11 : decode cX1_spread 11 = .ok (.aload_n 0, 1) := by decide +kernel
theorem dX1_spread_12 : decode cX1_spread 12 = .ok (.getfield 18, 3) := by decide +kernel
theorem dX1_spread_15 : decode cX1_spread 15 = .ok (.iload_n 3, 1) := by decide +kernel
theorem dX1_spread_16 : decode cX1_spread 16 = .ok (.iaload, 1) := by decide +kernel
theorem dX1_spread_17 : decode cX1_spread 17 = .ok (.iload_n 1, 1) := by decide +kernel
theorem dX1_spread_18 : decode cX1_spread 18 = .ok (.if_icmp .ne 79, 3) := by decide +kernel
theorem dX1_spread_21 : decode cX1_spread 21 = .ok (.iload_n 3, 1) := by decide +kernel
theorem dX1_spread_22 : decode cX1_spread 22 = .ok (.bipush 14, 2) := by decide +kernel
theorem dX1_spread_24 : decode cX1_spread 24 = .ok (.irem, 1) := by decide +kernel
theorem dX1_spread_25 : decode cX1_spread 25 = .ok (.istore 4, 2) := by decide +kernel
theorem dX1_spread_27 : decode cX1_spread 27 = .ok (.iload_n 3, 1) := by decide +kernel
theorem dX1_spread_28 : decode cX1_spread 28 = .ok (.bipush 14, 2) := by decide +kernel
theorem dX1_spread_30 : decode cX1_spread 30 = .ok (.idiv, 1) := by decide +kernel
theorem dX1_spread_31 : decode cX1_spread 31 = .ok (.istore 5, 2) := by decide +kernel
theorem dX1_spread_33 : decode cX1_spread 33 = .ok (.iload_n 2, 1) := by decide +kernel
theorem dX1_spread_34 : decode cX1_spread 34 = .ok (.aload_n 0, 1) := by decide +kernel
theorem dX1_spread_35 : decode cX1_spread 35 = .ok (.iload 4, 2) := by decide +kernel
theorem dX1_spread_37 : decode cX1_spread 37 = .ok (.iconst 1, 1) := by decide +kernel
theorem dX1_spread_38 : decode cX1_spread 38 = .ok (.isub, 1) := by decide +kernel
theorem dX1_spread_39 : decode cX1_spread 39 = .ok (.iload 5, 2) := by decide +kernel
theorem dX1_spread_41 : decode cX1_spread 41 = .ok (.iload_n 1, 1) := by decide +kernel
theorem dX1_spread_42 : decode cX1_spread 42 = .ok (.iconst 1, 1) := by decide +kernel
theorem dX1_spread_43 : decode cX1_spread 43 = .ok (.iadd, 1) := by decide +kernel
theorem dX1_spread_44 : decode cX1_spread 44 = .ok (.invokevirtual 38, 3) := by decide +kernel
theorem dX1_spread_47 : decode cX1_spread 47 = .ok (.iadd, 1) := by decide +kernel
theorem dX1_spread_48 : decode cX1_spread 48 = .ok (.istore_n 2, 1) := by decide +kernel
theorem dX1_spread_49 : decode cX1_spread 49 = .ok (.iload_n 2, 1) := by decide +kernel
theorem dX1_spread_50 : decode cX1_spread 50 = .ok (.aload_n 0, 1) := by decide +kernel
theorem dX1_spread_51 : decode cX1_spread 51 = .ok (.iload 4, 2) := by decide +kernel
theorem dX1_spread_53 : decode cX1_spread 53 = .ok (.iconst 1, 1) := by decide +kernel
theorem dX1_spread_54 : decode cX1_spread 54 = .ok (.iadd, 1) := by decide +kernel
theorem dX1_spread_55 : decode cX1_spread 55 = .ok (.iload 5, 2) := by decide +kernel
theorem dX1_spread_57 : decode cX1_spread 57 = .ok (.iload_n 1, 1) := by decide +kernel
theorem dX1_spread_58 : decode cX1_spread 58 = .ok (.iconst 1, 1) := by decide +kernel
theorem dX1_spread_59 : decode cX1_spread 59 = .ok (.iadd, 1) := by decide +kernel
theorem dX1_spread_60 : decode cX1_spread 60 = .ok (.invokevirtual 38, 3) := by decide +kernel
theorem dX1_spread_63 : decode cX1_spread 63 = .ok (.iadd, 1) := by decide +kernel
theorem dX1_spread_64 : decode cX1_spread 64 = .ok (.istore_n 2, 1) := by decide +kernel
theorem dX1_spread_65 : decode cX1_spread 65 = .ok (.iload_n 2, 1) := by decide +kernel
theorem dX1_spread_66 : decode cX1_spread 66 = .ok (.aload_n 0, 1) := by decide +kernel
theorem dX1_spread_67 : decode cX1_spread 67 = .ok (.iload 4, 2) := by decide +kernel
theorem dX1_spread_69 : decode cX1_spread 69 = .ok (.iload 5, 2) := by decide +kernel
theorem dX1_spread_71 : decode cX1_spread 71 = .ok (.iconst 1, 1) := by decide +kernel
theorem dX1_spread_72 : decode cX1_spread 72 = .ok (.isub, 1) := by decide +kernel
theorem dX1_spread_73 : decode cX1_spread 73 = .ok (.iload_n 1, 1) := by decide +kernel
theorem dX1_spread_74 : decode cX1_spread 74 = .ok (.iconst 1, 1) := by decide +kernel
theorem dX1_spread_75 : decode cX1_spread 75 = .ok (.iadd, 1) := by decide +kernel
theorem dX1_spread_76 : decode cX1_spread 76 = .ok (.invokevirtual 38, 3) := by decide +kernel
theorem dX1_spread_79 : decode cX1_spread 79 = .ok (.iadd, 1) := by decide +kernel
theorem dX1_spread_80 : decode cX1_spread 80 = .ok (.istore_n 2, 1) := by decide +kernel
theorem dX1_spread_81 : decode cX1_spread 81 = .ok (.iload_n 2, 1) := by decide +kernel
theorem dX1_spread_82 : decode cX1_spread 82 = .ok (.aload_n 0, 1) := by decide +kernel
theorem dX1_spread_83 : decode cX1_spread 83 = .ok (.iload 4, 2) := by decide +kernel
theorem dX1_spread_85 : decode cX1_spread 85 = .ok (.iload 5, 2) := by decide +kernel
theorem dX1_spread_87 : decode cX1_spread 87 = .ok (.iconst 1, 1) := by decide +kernel
theorem dX1_spread_88 : decode cX1_spread 88 = .ok (.iadd, 1) := by decide +kernel
theorem dX1_spread_89 : decode cX1_spread 89 = .ok (.iload_n 1, 1) := by decide +kernel
theorem dX1_spread_90 : decode cX1_spread 90 = .ok (.iconst 1, 1) := by decide +kernel
theorem dX1_spread_91 : decode cX1_spread 91 = .ok (.iadd, 1) := by decide +kernel
theorem dX1_spread_92 : decode cX1_spread 92 = .ok (.invokevirtual 38, 3) := by decide +kernel
theorem dX1_spread_95 : decode cX1_spread 95 = .ok (.iadd, 1) := by decide +kernel
theorem dX1_spread_96 : decode cX1_spread 96 = .ok (.istore_n 2, 1) := by decide +kernel
theorem dX1_spread_97 : decode cX1_spread 97 = .ok (.iinc 3 1, 3) := by decide +kernel
theorem dX1_spread_100 : decode cX1_spread 100 = .ok (.goto (-96), 3) := by decide +kernel
theorem dX1_spread_103 : decode cX1_spread 103 = .ok (.iload_n 2, 1) := by decide +kernel
theorem dX1_spread_104 : decode cX1_spread 104 = .ok (.ireturn, 1) := by decide +kernel
theorem dX1_enter_0 : decode cX1_enter 0 = .ok (.iload_n 1, 1) := by decide +kernel
theorem dX1_enter_1 : decode cX1_enter 1 = .ok (.iload_n 2, 1) := by decide +kernel
theorem dX1_enter_2 : decode cX1_enter 2 = .ok (.invokestatic 42, 3) := by decide +kernel
theorem dX1_enter_5 : decode cX1_enter 5 = .ok (.ifCond .ne 5, 3) := by decide +kernel
theorem dX1_enter_8 : decode cX1_enter 8 = .ok (.iconst 0, 1) := by decide +kernel
theorem dX1_enter_9 : decode cX1_enter 9 = .ok (.ireturn, 1) := by decide +kernel
theorem dX1_enter_10 : decode cX1_enter 10 = .ok (.iload_n 1, 1) := by decide +kernel
theorem dX1_enter_11 : decode cX1_enter 11 = .ok (.iload_n 2, 1) := by decide +kernel
theorem dX1_enter_12 : decode cX1_enter 12 = .ok (.invokestatic 46, 3) := by decide +kernel
theorem dX1_enter_15 : decode cX1_enter 15 = .ok (.istore 4, 2) := by decide +kernel
theorem dX1_enter_17 : decode cX1_enter 17 = .ok (.aload_n 0, 1) := by decide +kernel
theorem dX1_enter_18 : decode cX1_enter 18 = .ok (.iload 4, 2) := by decide +kernel
theorem dX1_enter_20 : decode cX1_enter 20 = .ok (.invokevirtual 21, 3) := by decide +kernel
theorem dX1_enter_23 : decode cX1_enter 23 = .ok (.ifCond .eq 14, 3) := by decide +kernel
theorem dX1_enter_26 : decode cX1_enter 26 = .ok (.aload_n 0, 1) := by decide +kernel
theorem dX1_enter_27 : decode cX1_enter 27 = .ok (.getfield 18, 3) := by decide +kernel
theorem dX1_enter_30 : decode cX1_enter 30 = .ok (.iload 4, 2) := by decide +kernel
theorem dX1_enter_32 : decode cX1_enter 32 = .ok (.iaload, 1) := by decide +kernel
theorem dX1_enter_33 : decode cX1_enter 33 = .ok (.iconst (-1), 1) := by decide +kernel
theorem dX1_enter_34 : decode cX1_enter 34 = .ok (.if_icmp .eq 5, 3) := by decide +kernel
theorem dX1_enter_37 : decode cX1_enter 37 = .ok (.iconst 0, 1) := by decide +kernel
theorem dX1_enter_38 : decode cX1_enter 38 = .ok (.ireturn, 1) := by decide +kernel
theorem dX1_enter_39 : decode cX1_enter 39 = .ok (.aload_n 0, 1) := by decide +kernel
theorem dX1_enter_40 : decode cX1_enter 40 = .ok (.getfield 18, 3) := by decide +kernel
theorem dX1_enter_43 : decode cX1_enter 43 = .ok (.iload 4, 2) := by decide +kernel
theorem dX1_enter_45 : decode cX1_enter 45 = .ok (.iload_n 3, 1) := by decide +kernel
theorem dX1_enter_46 : decode cX1_enter 46 = .ok (.iastore, 1) := by decide +kernel
theorem dX1_enter_47 : decode cX1_enter 47 = .ok (.iconst 1, 1) := by decide +kernel
theorem dX1_enter_48 : decode cX1_enter 48 = .ok (.ireturn, 1) := by decide +kernel
theorem dX2_init_0 : decode cX2_init 0 = .ok (.aload_n 0, 1) := by decide +kernel
theorem dX2_init_1 : decode cX2_init 1 = .ok (.invokespecial 3, 3) := by decide +kernel
theorem dX2_init_4 : decode cX2_init 4 = .ok (.aload_n 0, 1) := by decide +kernel
theorem dX2_init_5 : decode cX2_init 5 = .ok (.iload_n 1, 1) := by decide +kernel
theorem dX2_init_6 : decode cX2_init 6 = .ok (.putfield 9, 3) := by decide +kernel
theorem dX2_init_9 : decode cX2_init 9 = .ok (.aload_n 0, 1) := by decide +kernel
theorem dX2_init_10 : decode cX2_init 10 = .ok (.iload_n 2, 1) := by decide +kernel
theorem dX2_init_11 : decode cX2_init 11 = .ok (.putfield 15, 3) := by decide +kernel
theorem dX2_init_14 : decode cX2_init 14 = .ok (.aload_n 0, 1) := by decide +kernel
theorem dX2_init_15 : decode cX2_init 15 = .ok (.iload_n 3, 1) := by decide +kernel
theorem dX2_init_16 : decode cX2_init 16 = .ok (.putfield 18, 3) := by decide +kernel
theorem dX2_init_19 : decode cX2_init 19 = .ok (.aload_n 0, 1) := by decide +kernel
theorem dX2_init_20 : decode cX2_init 20 = .ok (.iconst 0, 1) := by decide +kernel
theorem dX2_init_21 : decode cX2_init 21 = .ok (.putfield 21, 3) := by decide +kernel
theorem dX2_init_24 : decode cX2_init 24 = .ok (.return_, 1) := by decide +kernel
theorem dX2_copyFrom_0 : decode cX2_copyFrom 0 = .ok (.aload_n 0, 1) := by decide +kernel
theorem dX2_copyFrom_1 : decode cX2_copyFrom 1 = .ok (.aload_n 1, 1) := by decide +kernel
theorem dX2_copyFrom_2 : decode cX2_copyFrom 2 = .ok (.getfield 9, 3) := by decide +kernel
theorem dX2_copyFrom_5 : decode cX2_copyFrom 5 = .ok (.putfield 9, 3) := by decide +kernel
theorem dX2_copyFrom_8 : decode cX2_copyFrom 8 = .ok (.aload_n 0, 1) := by decide +kernel
theorem dX2_copyFrom_9 : decode cX2_copyFrom 9 = .ok (.aload_n 1, 1) := by decide +kernel
theorem dX2_copyFrom_10 : decode cX2_copyFrom 10 = .ok (.getfield 15, 3) := by decide +kernel
theorem dX2_copyFrom_13 : decode cX2_copyFrom 13 = .ok (.putfield 15, 3) := by decide +kernel
theorem dX2_copyFrom_16 : decode cX2_copyFrom 16 = .ok (.aload_n 0, 1) := by decide +kernel
theorem dX2_copyFrom_17 : decode cX2_copyFrom 17 = .ok (.aload_n 1, 1) := by decide +kernel
theorem dX2_copyFrom_18 : decode cX2_copyFrom 18 = .ok (.getfield 18, 3) := by decide +kernel
theorem dX2_copyFrom_21 : decode cX2_copyFrom 21 = .ok (.putfield 18, 3) := by decide +kernel
theorem dX2_copyFrom_24 : decode cX2_copyFrom 24 = .ok (.aload_n 0, 1) := by decide +kernel
theorem dX2_copyFrom_25 : decode cX2_copyFrom 25 = .ok (.aload_n 1, 1) := by decide +kernel
theorem dX2_copyFrom_26 : decode cX2_copyFrom 26 = .ok (.getfield 21, 3) := by decide +kernel
theorem dX2_copyFrom_29 : decode cX2_copyFrom 29 = .ok (.putfield 21, 3) := by decide +kernel
theorem dX2_copyFrom_32 : decode cX2_copyFrom 32 = .ok (.aload_n 0, 1) := by decide +kernel
theorem dX2_copyFrom_33 : decode cX2_copyFrom 33 = .ok (.aload_n 1, 1) := by decide +kernel
theorem dX2_copyFrom_34 : decode cX2_copyFrom 34 = .ok (.getfield 24, 3) := by decide +kernel
theorem dX2_copyFrom_37 : decode cX2_copyFrom 37 = .ok (.putfield 24, 3) := by decide +kernel
theorem dX2_copyFrom_40 : decode cX2_copyFrom 40 = .ok (.aload_n 0, 1) := by decide +kernel
theorem dX2_copyFrom_41 : decode cX2_copyFrom 41 = .ok (.aload_n 1, 1) := by decide +kernel
theorem dX2_copyFrom_42 : decode cX2_copyFrom 42 = .ok (.getfield 27, 3) := by decide +kernel
theorem dX2_copyFrom_45 : decode cX2_copyFrom 45 = .ok (.putfield 27, 3) := by decide +kernel
theorem dX2_copyFrom_48 : decode cX2_copyFrom 48 = .ok (.aload_n 0, 1) := by decide +kernel
theorem dX2_copyFrom_49 : decode cX2_copyFrom 49 = .ok (.aload_n 1, 1) := by decide +kernel
theorem dX2_copyFrom_50 : decode cX2_copyFrom 50 = .ok (.getfield 30, 3) := by decide +kernel
theorem dX2_copyFrom_53 : decode cX2_copyFrom 53 = .ok (.putfield 30, 3) := by decide +kernel
theorem dX2_copyFrom_56 : decode cX2_copyFrom 56 = .ok (.return_, 1) := by decide +kernel
theorem dX2_catchFire_0 : decode cX2_catchFire 0 = .ok (.aload_n 0, 1) := by decide +kernel
theorem dX2_catchFire_1 : decode cX2_catchFire 1 = .ok (.iconst 1, 1) := by decide +kernel
theorem dX2_catchFire_2 : decode cX2_catchFire 2 = .ok (.putfield 21, 3) := by decide +kernel
theorem dX2_catchFire_5 : decode cX2_catchFire 5 = .ok (.aload_n 0, 1) := by decide +kernel
theorem dX2_catchFire_6 : decode cX2_catchFire 6 = .ok (.iload_n 1, 1) := by decide +kernel
theorem dX2_catchFire_7 : decode cX2_catchFire 7 = .ok (.putfield 24, 3) := by decide +kernel
theorem dX2_catchFire_10 : decode cX2_catchFire 10 = .ok (.return_, 1) := by decide +kernel
theorem dX2_takeWater_0 : decode cX2_takeWater 0 = .ok (.aload_n 0, 1) := by decide +kernel
theorem dX2_takeWater_1 : decode cX2_takeWater 1 = .ok (.dup, 1) := by decide +kernel
theorem dX2_takeWater_2 : decode cX2_takeWater 2 = .ok (.getfield 27, 3) := by decide +kernel
theorem dX2_takeWater_5 : decode cX2_takeWater 5 = .ok (.iload_n 1, 1) := by decide +kernel
theorem dX2_takeWater_6 : decode cX2_takeWater 6 = .ok (.iadd, 1) := by decide +kernel
theorem dX2_takeWater_7 : decode cX2_takeWater 7 = .ok (.putfield 27, 3) := by decide +kernel
theorem dX2_takeWater_10 : decode cX2_takeWater 10 = .ok (.aload_n 0, 1) := by decide +kernel
theorem dX2_takeWater_11 : decode cX2_takeWater 11 = .ok (.dup, 1) := by decide +kernel
theorem dX2_takeWater_12 : decode cX2_takeWater 12 = .ok (.getfield 30, 3) := by decide +kernel
theorem dX2_takeWater_15 : decode cX2_takeWater 15 = .ok (.iload_n 1, 1) := by decide +kernel
theorem dX2_takeWater_16 : decode cX2_takeWater 16 = .ok (.iadd, 1) := by decide +kernel
theorem dX2_takeWater_17 : decode cX2_takeWater 17 = .ok (.putfield 30, 3) := by decide +kernel
theorem dX2_takeWater_20 : decode cX2_takeWater 20 = .ok (.return_, 1) := by decide +kernel
theorem dX2_burnAMinute_0 : decode cX2_burnAMinute 0 = .ok (.aload_n 0, 1) := by decide +kernel
theorem dX2_burnAMinute_1 : decode cX2_burnAMinute 1 = .ok (.getfield 21, 3) := by decide +kernel
theorem dX2_burnAMinute_4 : decode cX2_burnAMinute 4 = .ok (.iconst 1, 1) := by decide +kernel
theorem dX2_burnAMinute_5 : decode cX2_burnAMinute 5 = .ok (.if_icmp .eq 4, 3) := by decide +kernel
theorem dX2_burnAMinute_8 : decode cX2_burnAMinute 8 = .ok (.return_, 1) := by decide +kernel
theorem dX2_burnAMinute_9 : decode cX2_burnAMinute 9 = .ok (.aload_n 0, 1) := by decide +kernel
theorem dX2_burnAMinute_10 : decode cX2_burnAMinute 10 = .ok (.bipush 99, 2) := by decide +kernel
theorem dX2_burnAMinute_12 : decode cX2_burnAMinute 12 = .ok (.aload_n 0, 1) := by decide +kernel
theorem dX2_burnAMinute_13 : decode cX2_burnAMinute 13 = .ok (.getfield 24, 3) := by decide +kernel
theorem dX2_burnAMinute_16 : decode cX2_burnAMinute 16 = .ok (.aload_n 0, 1) := by decide +kernel
theorem dX2_burnAMinute_17 : decode cX2_burnAMinute 17 = .ok (.getfield 15, 3) := by decide +kernel
theorem dX2_burnAMinute_20 : decode cX2_burnAMinute 20 = .ok (.iadd, 1) := by decide +kernel
theorem dX2_burnAMinute_21 : decode cX2_burnAMinute 21 = .ok (.aload_n 0, 1) := by decide +kernel
theorem dX2_burnAMinute_22 : decode cX2_burnAMinute 22 = .ok (.getfield 27, 3) := by decide +kernel
theorem dX2_burnAMinute_25 : decode cX2_burnAMinute 25 = .ok (.iconst 4, 1) := by decide +kernel
theorem dX2_burnAMinute_26 : decode cX2_burnAMinute 26 = .ok (.idiv, 1) := by decide +kernel
theorem dX2_burnAMinute_27 : decode cX2_burnAMinute 27 = .ok (.isub, 1) := by decide +kernel
theorem dX2_burnAMinute_28 : decode cX2_burnAMinute 28 = .ok (.invokestatic 33, 3) := by decide +kernel
theorem dX2_burnAMinute_31 : decode cX2_burnAMinute 31 = .ok (.putfield 24, 3) := by decide +kernel
theorem dX2_burnAMinute_34 : decode cX2_burnAMinute 34 = .ok (.aload_n 0, 1) := by decide +kernel
theorem dX2_burnAMinute_35 : decode cX2_burnAMinute 35 = .ok (.getfield 24, 3) := by decide +kernel
theorem dX2_burnAMinute_38 : decode cX2_burnAMinute 38 = .ok (.ifCond .gt 9, 3) := by decide +kernel
theorem dX2_burnAMinute_41 : decode cX2_burnAMinute 41 = .ok (.aload_n 0, 1) := by decide +kernel
theorem dX2_burnAMinute_42 : decode cX2_burnAMinute 42 = .ok (.iconst 2, 1) := by decide +kernel
theorem dX2_burnAMinute_43 : decode cX2_burnAMinute 43 = .ok (.invokevirtual 39, 3) := by decide +kernel
theorem dX2_burnAMinute_46 : decode cX2_burnAMinute 46 = .ok (.return_, 1) := by decide +kernel
theorem dX2_burnAMinute_47 : decode cX2_burnAMinute 47 = .ok (.aload_n 0, 1) := by decide +kernel
theorem dX2_burnAMinute_48 : decode cX2_burnAMinute 48 = .ok (.iconst 0, 1) := by decide +kernel
theorem dX2_burnAMinute_49 : decode cX2_burnAMinute 49 = .ok (.aload_n 0, 1) := by decide +kernel
theorem dX2_burnAMinute_50 : decode cX2_burnAMinute 50 = .ok (.getfield 18, 3) := by decide +kernel
theorem dX2_burnAMinute_53 : decode cX2_burnAMinute 53 = .ok (.iconst 1, 1) := by decide +kernel
theorem dX2_burnAMinute_54 : decode cX2_burnAMinute 54 = .ok (.isub, 1) := by decide +kernel
theorem dX2_burnAMinute_55 : decode cX2_burnAMinute 55 = .ok (.aload_n 0, 1) := by decide +kernel
theorem dX2_burnAMinute_56 : decode cX2_burnAMinute 56 = .ok (.getfield 24, 3) := by decide +kernel
theorem dX2_burnAMinute_59 : decode cX2_burnAMinute 59 = .ok (.bipush 25, 2) := by decide +kernel
theorem dX2_burnAMinute_61 : decode cX2_burnAMinute 61 = .ok (.idiv, 1) := by decide +kernel
theorem dX2_burnAMinute_62 : decode cX2_burnAMinute 62 = .ok (.isub, 1) := by decide +kernel
theorem dX2_burnAMinute_63 : decode cX2_burnAMinute 63 = .ok (.invokestatic 43, 3) := by decide +kernel
theorem dX2_burnAMinute_66 : decode cX2_burnAMinute 66 = .ok (.putfield 18, 3) := by decide +kernel
theorem dX2_burnAMinute_69 : decode cX2_burnAMinute 69 = .ok (.aload_n 0, 1) := by decide +kernel
theorem dX2_burnAMinute_70 : decode cX2_burnAMinute 70 = .ok (.getfield 18, 3) := by decide +kernel
theorem dX2_burnAMinute_73 : decode cX2_burnAMinute 73 = .ok (.ifCond .ne 8, 3) := by decide +kernel
theorem dX2_burnAMinute_76 : decode cX2_burnAMinute 76 = .ok (.aload_n 0, 1) := by decide +kernel
theorem dX2_burnAMinute_77 : decode cX2_burnAMinute 77 = .ok (.iconst 3, 1) := by decide +kernel
theorem dX2_burnAMinute_78 : decode cX2_burnAMinute 78 = .ok (.invokevirtual 39, 3) := by decide +kernel
theorem dX2_burnAMinute_81 : decode cX2_burnAMinute 81 = .ok (.return_, 1) := by decide +kernel
theorem dX2_endFire_0 : decode cX2_endFire 0 = .ok (.aload_n 0, 1) := by decide +kernel
theorem dX2_endFire_1 : decode cX2_endFire 1 = .ok (.iload_n 1, 1) := by decide +kernel
theorem dX2_endFire_2 : decode cX2_endFire 2 = .ok (.putfield 21, 3) := by decide +kernel
theorem dX2_endFire_5 : decode cX2_endFire 5 = .ok (.aload_n 0, 1) := by decide +kernel
theorem dX2_endFire_6 : decode cX2_endFire 6 = .ok (.iconst 0, 1) := by decide +kernel
theorem dX2_endFire_7 : decode cX2_endFire 7 = .ok (.putfield 24, 3) := by decide +kernel
theorem dX2_endFire_10 : decode cX2_endFire 10 = .ok (.return_, 1) := by decide +kernel
theorem dX2_tell_0 : decode cX2_tell 0 = .ok (.iload_n 1, 1) := by decide +kernel
theorem dX2_tell_1 : decode cX2_tell 1 = .ok (.tableswitch 69 0 5 #[39, 44, 49, 54, 59, 64], 39) := by decide +kernel
theorem dX2_tell_40 : decode cX2_tell 40 = .ok (.aload_n 0, 1) := by decide +kernel
theorem dX2_tell_41 : decode cX2_tell 41 = .ok (.getfield 9, 3) := by decide +kernel
theorem dX2_tell_44 : decode cX2_tell 44 = .ok (.ireturn, 1) := by decide +kernel
theorem dX2_tell_45 : decode cX2_tell 45 = .ok (.aload_n 0, 1) := by decide +kernel
theorem dX2_tell_46 : decode cX2_tell 46 = .ok (.getfield 15, 3) := by decide +kernel
theorem dX2_tell_49 : decode cX2_tell 49 = .ok (.ireturn, 1) := by decide +kernel
theorem dX2_tell_50 : decode cX2_tell 50 = .ok (.aload_n 0, 1) := by decide +kernel
theorem dX2_tell_51 : decode cX2_tell 51 = .ok (.getfield 18, 3) := by decide +kernel
theorem dX2_tell_54 : decode cX2_tell 54 = .ok (.ireturn, 1) := by decide +kernel
theorem dX2_tell_55 : decode cX2_tell 55 = .ok (.aload_n 0, 1) := by decide +kernel
theorem dX2_tell_56 : decode cX2_tell 56 = .ok (.getfield 21, 3) := by decide +kernel
theorem dX2_tell_59 : decode cX2_tell 59 = .ok (.ireturn, 1) := by decide +kernel
theorem dX2_tell_60 : decode cX2_tell 60 = .ok (.aload_n 0, 1) := by decide +kernel
theorem dX2_tell_61 : decode cX2_tell 61 = .ok (.getfield 24, 3) := by decide +kernel
theorem dX2_tell_64 : decode cX2_tell 64 = .ok (.ireturn, 1) := by decide +kernel
theorem dX2_tell_65 : decode cX2_tell 65 = .ok (.aload_n 0, 1) := by decide +kernel
theorem dX2_tell_66 : decode cX2_tell 66 = .ok (.getfield 27, 3) := by decide +kernel
theorem dX2_tell_69 : decode cX2_tell 69 = .ok (.ireturn, 1) := by decide +kernel
theorem dX2_tell_70 : decode cX2_tell 70 = .ok (.aload_n 0, 1) := by decide +kernel
theorem dX2_tell_71 : decode cX2_tell 71 = .ok (.getfield 30, 3) := by decide +kernel
theorem dX2_tell_74 : decode cX2_tell 74 = .ok (.ireturn, 1) := by decide +kernel
theorem dX3_init_0 : decode cX3_init 0 = .ok (.aload_n 0, 1) := by decide +kernel
theorem dX3_init_1 : decode cX3_init 1 = .ok (.invokespecial 1, 3) := by decide +kernel
theorem dX3_init_4 : decode cX3_init 4 = .ok (.aload_n 0, 1) := by decide +kernel
theorem dX3_init_5 : decode cX3_init 5 = .ok (.iload_n 1, 1) := by decide +kernel
theorem dX3_init_6 : decode cX3_init 6 = .ok (.putfield 7, 3) := by decide +kernel
theorem dX3_init_9 : decode cX3_init 9 = .ok (.aload_n 0, 1) := by decide +kernel
theorem dX3_init_10 : decode cX3_init 10 = .ok (.iload_n 2, 1) := by decide +kernel
theorem dX3_init_11 : decode cX3_init 11 = .ok (.putfield 13, 3) := by decide +kernel
theorem dX3_init_14 : decode cX3_init 14 = .ok (.return_, 1) := by decide +kernel
theorem dX3_copyFrom_0 : decode cX3_copyFrom 0 = .ok (.aload_n 0, 1) := by decide +kernel
theorem dX3_copyFrom_1 : decode cX3_copyFrom 1 = .ok (.aload_n 1, 1) := by decide +kernel
theorem dX3_copyFrom_2 : decode cX3_copyFrom 2 = .ok (.getfield 7, 3) := by decide +kernel
theorem dX3_copyFrom_5 : decode cX3_copyFrom 5 = .ok (.putfield 7, 3) := by decide +kernel
theorem dX3_copyFrom_8 : decode cX3_copyFrom 8 = .ok (.aload_n 0, 1) := by decide +kernel
theorem dX3_copyFrom_9 : decode cX3_copyFrom 9 = .ok (.aload_n 1, 1) := by decide +kernel
theorem dX3_copyFrom_10 : decode cX3_copyFrom 10 = .ok (.getfield 13, 3) := by decide +kernel
theorem dX3_copyFrom_13 : decode cX3_copyFrom 13 = .ok (.putfield 13, 3) := by decide +kernel
theorem dX3_copyFrom_16 : decode cX3_copyFrom 16 = .ok (.return_, 1) := by decide +kernel
theorem dX3_giveUpTo_0 : decode cX3_giveUpTo 0 = .ok (.iconst 0, 1) := by decide +kernel
theorem dX3_giveUpTo_1 : decode cX3_giveUpTo 1 = .ok (.iload_n 1, 1) := by decide +kernel
theorem dX3_giveUpTo_2 : decode cX3_giveUpTo 2 = .ok (.aload_n 0, 1) := by decide +kernel
theorem dX3_giveUpTo_3 : decode cX3_giveUpTo 3 = .ok (.getfield 13, 3) := by decide +kernel
theorem dX3_giveUpTo_6 : decode cX3_giveUpTo 6 = .ok (.invokestatic 16, 3) := by decide +kernel
theorem dX3_giveUpTo_9 : decode cX3_giveUpTo 9 = .ok (.invokestatic 22, 3) := by decide +kernel
theorem dX3_giveUpTo_12 : decode cX3_giveUpTo 12 = .ok (.istore_n 2, 1) := by decide +kernel
theorem dX3_giveUpTo_13 : decode cX3_giveUpTo 13 = .ok (.aload_n 0, 1) := by decide +kernel
theorem dX3_giveUpTo_14 : decode cX3_giveUpTo 14 = .ok (.dup, 1) := by decide +kernel
theorem dX3_giveUpTo_15 : decode cX3_giveUpTo 15 = .ok (.getfield 13, 3) := by decide +kernel
theorem dX3_giveUpTo_18 : decode cX3_giveUpTo 18 = .ok (.iload_n 2, 1) := by decide +kernel
theorem dX3_giveUpTo_19 : decode cX3_giveUpTo 19 = .ok (.isub, 1) := by decide +kernel
theorem dX3_giveUpTo_20 : decode cX3_giveUpTo 20 = .ok (.putfield 13, 3) := by decide +kernel
theorem dX3_giveUpTo_23 : decode cX3_giveUpTo 23 = .ok (.iload_n 2, 1) := by decide +kernel
theorem dX3_giveUpTo_24 : decode cX3_giveUpTo 24 = .ok (.ireturn, 1) := by decide +kernel
theorem dX4_init_0 : decode cX4_init 0 = .ok (.aload_n 0, 1) := by decide +kernel
theorem dX4_init_1 : decode cX4_init 1 = .ok (.invokespecial 3, 3) := by decide +kernel
theorem dX4_init_4 : decode cX4_init 4 = .ok (.aload_n 0, 1) := by decide +kernel
theorem dX4_init_5 : decode cX4_init 5 = .ok (.new 9, 3) := by decide +kernel
theorem dX4_init_8 : decode cX4_init 8 = .ok (.dup, 1) := by decide +kernel
theorem dX4_init_9 : decode cX4_init 9 = .ok (.invokespecial 11, 3) := by decide +kernel
theorem dX4_init_12 : decode cX4_init 12 = .ok (.putfield 12, 3) := by decide +kernel
theorem dX4_init_15 : decode cX4_init 15 = .ok (.aload_n 0, 1) := by decide +kernel
theorem dX4_init_16 : decode cX4_init 16 = .ok (.new 9, 3) := by decide +kernel
theorem dX4_init_19 : decode cX4_init 19 = .ok (.dup, 1) := by decide +kernel
theorem dX4_init_20 : decode cX4_init 20 = .ok (.invokespecial 11, 3) := by decide +kernel
theorem dX4_init_23 : decode cX4_init 23 = .ok (.putfield 18, 3) := by decide +kernel
theorem dX4_init_26 : decode cX4_init 26 = .ok (.aload_n 0, 1) := by decide +kernel
theorem dX4_init_27 : decode cX4_init 27 = .ok (.new 9, 3) := by decide +kernel
theorem dX4_init_30 : decode cX4_init 30 = .ok (.dup, 1) := by decide +kernel
theorem dX4_init_31 : decode cX4_init 31 = .ok (.invokespecial 11, 3) := by decide +kernel
theorem dX4_init_34 : decode cX4_init 34 = .ok (.putfield 21, 3) := by decide +kernel
theorem dX4_init_37 : decode cX4_init 37 = .ok (.return_, 1) := by decide +kernel
theorem dX4_copyFrom_0 : decode cX4_copyFrom 0 = .ok (.aload_n 0, 1) := by decide +kernel
theorem dX4_copyFrom_1 : decode cX4_copyFrom 1 = .ok (.aload_n 1, 1) := by decide +kernel
theorem dX4_copyFrom_2 : decode cX4_copyFrom 2 = .ok (.getfield 24, 3) := by decide +kernel
theorem dX4_copyFrom_5 : decode cX4_copyFrom 5 = .ok (.putfield 24, 3) := by decide +kernel
theorem dX4_copyFrom_8 : decode cX4_copyFrom 8 = .ok (.iconst 0, 1) := by decide +kernel
theorem dX4_copyFrom_9 : decode cX4_copyFrom 9 = .ok (.istore_n 2, 1) := by decide +kernel
theorem dX4_copyFrom_10 : decode cX4_copyFrom 10 = .ok (.iload_n 2, 1) := by decide +kernel
theorem dX4_copyFrom_11 : decode cX4_copyFrom 11 = .ok (.aload_n 1, 1) := by decide +kernel
theorem dX4_copyFrom_12 : decode cX4_copyFrom 12 = .ok (.getfield 12, 3) := by decide +kernel
theorem dX4_copyFrom_15 : decode cX4_copyFrom 15 = .ok (.invokevirtual 28, 3) := by decide +kernel
theorem dX4_copyFrom_18 : decode cX4_copyFrom 18 = .ok (.if_icmp .ge 63, 3) := by decide +kernel
theorem dX4_copyFrom_21 : decode cX4_copyFrom 21 = .ok (.iload_n 2, 1) := by decide +kernel
theorem dX4_copyFrom_22 : decode cX4_copyFrom 22 = .ok (.aload_n 0, 1) := by decide +kernel
theorem dX4_copyFrom_23 : decode cX4_copyFrom 23 = .ok (.getfield 12, 3) := by decide +kernel
theorem dX4_copyFrom_26 : decode cX4_copyFrom 26 = .ok (.invokevirtual 28, 3) := by decide +kernel
theorem dX4_copyFrom_29 : decode cX4_copyFrom 29 = .ok (.if_icmp .lt 21, 3) := by decide +kernel
theorem dX4_copyFrom_32 : decode cX4_copyFrom 32 = .ok (.aload_n 0, 1) := by decide +kernel
theorem dX4_copyFrom_33 : decode cX4_copyFrom 33 = .ok (.getfield 12, 3) := by decide +kernel
theorem dX4_copyFrom_36 : decode cX4_copyFrom 36 = .ok (.new 32, 3) := by decide +kernel
theorem dX4_copyFrom_39 : decode cX4_copyFrom 39 = .ok (.dup, 1) := by decide +kernel
theorem dX4_copyFrom_40 : decode cX4_copyFrom 40 = .ok (.iconst 0, 1) := by decide +kernel
theorem dX4_copyFrom_41 : decode cX4_copyFrom 41 = .ok (.iconst 0, 1) := by decide +kernel
theorem dX4_copyFrom_42 : decode cX4_copyFrom 42 = .ok (.iconst 0, 1) := by decide +kernel
theorem dX4_copyFrom_43 : decode cX4_copyFrom 43 = .ok (.invokespecial 34, 3) := by decide +kernel
theorem dX4_copyFrom_46 : decode cX4_copyFrom 46 = .ok (.invokevirtual 37, 3) := by decide +kernel
theorem dX4_copyFrom_49 : decode cX4_copyFrom 49 = .ok (.pop, 1) := by decide +kernel
theorem dX4_copyFrom_50 : decode cX4_copyFrom 50 = .ok (.aload_n 0, 1) := by decide +kernel
theorem dX4_copyFrom_51 : decode cX4_copyFrom 51 = .ok (.getfield 12, 3) := by decide +kernel
theorem dX4_copyFrom_54 : decode cX4_copyFrom 54 = .ok (.iload_n 2, 1) := by decide +kernel
theorem dX4_copyFrom_55 : decode cX4_copyFrom 55 = .ok (.invokevirtual 41, 3) := by decide +kernel
theorem dX4_copyFrom_58 : decode cX4_copyFrom 58 = .ok (.checkcast 32, 3) := by decide +kernel
theorem dX4_copyFrom_61 : decode cX4_copyFrom 61 = .ok (.aload_n 1, 1) := by decide +kernel
theorem dX4_copyFrom_62 : decode cX4_copyFrom 62 = .ok (.getfield 12, 3) := by decide +kernel
theorem dX4_copyFrom_65 : decode cX4_copyFrom 65 = .ok (.iload_n 2, 1) := by decide +kernel
theorem dX4_copyFrom_66 : decode cX4_copyFrom 66 = .ok (.invokevirtual 41, 3) := by decide +kernel
theorem dX4_copyFrom_69 : decode cX4_copyFrom 69 = .ok (.checkcast 32, 3) := by decide +kernel
theorem dX4_copyFrom_72 : decode cX4_copyFrom 72 = .ok (.invokevirtual 45, 3) := by decide +kernel
theorem dX4_copyFrom_75 : decode cX4_copyFrom 75 = .ok (.iinc 2 1, 3) := by decide +kernel
theorem dX4_copyFrom_78 : decode cX4_copyFrom 78 = .ok (.goto (-68), 3) := by decide +kernel
theorem dX4_copyFrom_81 : decode cX4_copyFrom 81 = .ok (.iconst 0, 1) := by decide +kernel
theorem dX4_copyFrom_82 : decode cX4_copyFrom 82 = .ok (.istore_n 2, 1) := by decide +kernel
theorem dX4_copyFrom_83 : decode cX4_copyFrom 83 = .ok (.iload_n 2, 1) := by decide +kernel
theorem dX4_copyFrom_84 : decode cX4_copyFrom 84 = .ok (.aload_n 1, 1) := by decide +kernel
theorem dX4_copyFrom_85 : decode cX4_copyFrom 85 = .ok (.getfield 18, 3) := by decide +kernel
theorem dX4_copyFrom_88 : decode cX4_copyFrom 88 = .ok (.invokevirtual 28, 3) := by decide +kernel
theorem dX4_copyFrom_91 : decode cX4_copyFrom 91 = .ok (.if_icmp .ge 62, 3) := by decide +kernel
theorem dX4_copyFrom_94 : decode cX4_copyFrom 94 = .ok (.iload_n 2, 1) := by decide +kernel
theorem dX4_copyFrom_95 : decode cX4_copyFrom 95 = .ok (.aload_n 0, 1) := by decide +kernel
theorem dX4_copyFrom_96 : decode cX4_copyFrom 96 = .ok (.getfield 18, 3) := by decide +kernel
theorem dX4_copyFrom_99 : decode cX4_copyFrom 99 = .ok (.invokevirtual 28, 3) := by decide +kernel
theorem dX4_copyFrom_102 : decode cX4_copyFrom 102 = .ok (.if_icmp .lt 20, 3) := by decide +kernel
theorem dX4_copyFrom_105 : decode cX4_copyFrom 105 = .ok (.aload_n 0, 1) := by decide +kernel
theorem dX4_copyFrom_106 : decode cX4_copyFrom 106 = .ok (.getfield 18, 3) := by decide +kernel
theorem dX4_copyFrom_109 : decode cX4_copyFrom 109 = .ok (.new 49, 3) := by decide +kernel
theorem dX4_copyFrom_112 : decode cX4_copyFrom 112 = .ok (.dup, 1) := by decide +kernel
theorem dX4_copyFrom_113 : decode cX4_copyFrom 113 = .ok (.iconst 0, 1) := by decide +kernel
theorem dX4_copyFrom_114 : decode cX4_copyFrom 114 = .ok (.iconst 0, 1) := by decide +kernel
theorem dX4_copyFrom_115 : decode cX4_copyFrom 115 = .ok (.invokespecial 51, 3) := by decide +kernel
theorem dX4_copyFrom_118 : decode cX4_copyFrom 118 = .ok (.invokevirtual 37, 3) := by decide +kernel
theorem dX4_copyFrom_121 : decode cX4_copyFrom 121 = .ok (.pop, 1) := by decide +kernel
theorem dX4_copyFrom_122 : decode cX4_copyFrom 122 = .ok (.aload_n 0, 1) := by decide +kernel
theorem dX4_copyFrom_123 : decode cX4_copyFrom 123 = .ok (.getfield 18, 3) := by decide +kernel
theorem dX4_copyFrom_126 : decode cX4_copyFrom 126 = .ok (.iload_n 2, 1) := by decide +kernel
theorem dX4_copyFrom_127 : decode cX4_copyFrom 127 = .ok (.invokevirtual 41, 3) := by decide +kernel
theorem dX4_copyFrom_130 : decode cX4_copyFrom 130 = .ok (.checkcast 49, 3) := by decide +kernel
theorem dX4_copyFrom_133 : decode cX4_copyFrom 133 = .ok (.aload_n 1, 1) := by decide +kernel
theorem dX4_copyFrom_134 : decode cX4_copyFrom 134 = .ok (.getfield 18, 3) := by decide +kernel
theorem dX4_copyFrom_137 : decode cX4_copyFrom 137 = .ok (.iload_n 2, 1) := by decide +kernel
theorem dX4_copyFrom_138 : decode cX4_copyFrom 138 = .ok (.invokevirtual 41, 3) := by decide +kernel
theorem dX4_copyFrom_141 : decode cX4_copyFrom 141 = .ok (.checkcast 49, 3) := by decide +kernel
theorem dX4_copyFrom_144 : decode cX4_copyFrom 144 = .ok (.invokevirtual 54, 3) := by decide +kernel
theorem dX4_copyFrom_147 : decode cX4_copyFrom 147 = .ok (.iinc 2 1, 3) := by decide +kernel
theorem dX4_copyFrom_150 : decode cX4_copyFrom 150 = .ok (.goto (-67), 3) := by decide +kernel
theorem dX4_copyFrom_153 : decode cX4_copyFrom 153 = .ok (.iconst 0, 1) := by decide +kernel
theorem dX4_copyFrom_154 : decode cX4_copyFrom 154 = .ok (.istore_n 2, 1) := by decide +kernel
theorem dX4_copyFrom_155 : decode cX4_copyFrom 155 = .ok (.iload_n 2, 1) := by decide +kernel
theorem dX4_copyFrom_156 : decode cX4_copyFrom 156 = .ok (.aload_n 1, 1) := by decide +kernel
theorem dX4_copyFrom_157 : decode cX4_copyFrom 157 = .ok (.getfield 21, 3) := by decide +kernel
theorem dX4_copyFrom_160 : decode cX4_copyFrom 160 = .ok (.invokevirtual 28, 3) := by decide +kernel
theorem dX4_copyFrom_163 : decode cX4_copyFrom 163 = .ok (.if_icmp .ge 63, 3) := by decide +kernel
theorem dX4_copyFrom_166 : decode cX4_copyFrom 166 = .ok (.iload_n 2, 1) := by decide +kernel
theorem dX4_copyFrom_167 : decode cX4_copyFrom 167 = .ok (.aload_n 0, 1) := by decide +kernel
theorem dX4_copyFrom_168 : decode cX4_copyFrom 168 = .ok (.getfield 21, 3) := by decide +kernel
theorem dX4_copyFrom_171 : decode cX4_copyFrom 171 = .ok (.invokevirtual 28, 3) := by decide +kernel
theorem dX4_copyFrom_174 : decode cX4_copyFrom 174 = .ok (.if_icmp .lt 21, 3) := by decide +kernel
theorem dX4_copyFrom_177 : decode cX4_copyFrom 177 = .ok (.aload_n 0, 1) := by decide +kernel
theorem dX4_copyFrom_178 : decode cX4_copyFrom 178 = .ok (.getfield 21, 3) := by decide +kernel
theorem dX4_copyFrom_181 : decode cX4_copyFrom 181 = .ok (.new 57, 3) := by decide +kernel
theorem dX4_copyFrom_184 : decode cX4_copyFrom 184 = .ok (.dup, 1) := by decide +kernel
theorem dX4_copyFrom_185 : decode cX4_copyFrom 185 = .ok (.iconst 0, 1) := by decide +kernel
theorem dX4_copyFrom_186 : decode cX4_copyFrom 186 = .ok (.iconst 0, 1) := by decide +kernel
theorem dX4_copyFrom_187 : decode cX4_copyFrom 187 = .ok (.iconst 0, 1) := by decide +kernel
theorem dX4_copyFrom_188 : decode cX4_copyFrom 188 = .ok (.invokespecial 59, 3) := by decide +kernel
theorem dX4_copyFrom_191 : decode cX4_copyFrom 191 = .ok (.invokevirtual 37, 3) := by decide +kernel
theorem dX4_copyFrom_194 : decode cX4_copyFrom 194 = .ok (.pop, 1) := by decide +kernel
theorem dX4_copyFrom_195 : decode cX4_copyFrom 195 = .ok (.aload_n 0, 1) := by decide +kernel
theorem dX4_copyFrom_196 : decode cX4_copyFrom 196 = .ok (.getfield 21, 3) := by decide +kernel
theorem dX4_copyFrom_199 : decode cX4_copyFrom 199 = .ok (.iload_n 2, 1) := by decide +kernel
theorem dX4_copyFrom_200 : decode cX4_copyFrom 200 = .ok (.invokevirtual 41, 3) := by decide +kernel
theorem dX4_copyFrom_203 : decode cX4_copyFrom 203 = .ok (.checkcast 57, 3) := by decide +kernel
theorem dX4_copyFrom_206 : decode cX4_copyFrom 206 = .ok (.aload_n 1, 1) := by decide +kernel
theorem dX4_copyFrom_207 : decode cX4_copyFrom 207 = .ok (.getfield 21, 3) := by decide +kernel
theorem dX4_copyFrom_210 : decode cX4_copyFrom 210 = .ok (.iload_n 2, 1) := by decide +kernel
theorem dX4_copyFrom_211 : decode cX4_copyFrom 211 = .ok (.invokevirtual 41, 3) := by decide +kernel
theorem dX4_copyFrom_214 : decode cX4_copyFrom 214 = .ok (.checkcast 57, 3) := by decide +kernel
theorem dX4_copyFrom_217 : decode cX4_copyFrom 217 = .ok (.invokevirtual 60, 3) := by decide +kernel
theorem dX4_copyFrom_220 : decode cX4_copyFrom 220 = .ok (.iinc 2 1, 3) := by decide +kernel
theorem dX4_copyFrom_223 : decode cX4_copyFrom 223 = .ok (.goto (-68), 3) := by decide +kernel
theorem dX4_copyFrom_226 : decode cX4_copyFrom 226 = .ok (.return_, 1) := by decide +kernel
theorem dX4_tell_0 : decode cX4_tell 0 = .ok (.iload_n 1, 1) := by decide +kernel
theorem dX4_tell_1 : decode cX4_tell 1 = .ok (.tableswitch 109 0 8 #[51, 56, 64, 70, 76, 82, 90, 98, 103], 51) := by decide +kernel
theorem dX4_tell_52 : decode cX4_tell 52 = .ok (.aload_n 0, 1) := by decide +kernel
theorem dX4_tell_53 : decode cX4_tell 53 = .ok (.getfield 24, 3) := by decide +kernel
theorem dX4_tell_56 : decode cX4_tell 56 = .ok (.ireturn, 1) := by decide +kernel
theorem dX4_tell_57 : decode cX4_tell 57 = .ok (.aload_n 0, 1) := by decide +kernel
theorem dX4_tell_58 : decode cX4_tell 58 = .ok (.getfield 12, 3) := by decide +kernel
theorem dX4_tell_61 : decode cX4_tell 61 = .ok (.invokevirtual 28, 3) := by decide +kernel
theorem dX4_tell_64 : decode cX4_tell 64 = .ok (.ireturn, 1) := by decide +kernel
theorem dX4_tell_65 : decode cX4_tell 65 = .ok (.aload_n 0, 1) := by decide +kernel
theorem dX4_tell_66 : decode cX4_tell 66 = .ok (.iconst 1, 1) := by decide +kernel
theorem dX4_tell_67 : decode cX4_tell 67 = .ok (.invokevirtual 63, 3) := by decide +kernel
theorem dX4_tell_70 : decode cX4_tell 70 = .ok (.ireturn, 1) := by decide +kernel
theorem dX4_tell_71 : decode cX4_tell 71 = .ok (.aload_n 0, 1) := by decide +kernel
theorem dX4_tell_72 : decode cX4_tell 72 = .ok (.iconst 2, 1) := by decide +kernel
theorem dX4_tell_73 : decode cX4_tell 73 = .ok (.invokevirtual 63, 3) := by decide +kernel
theorem dX4_tell_76 : decode cX4_tell 76 = .ok (.ireturn, 1) := by decide +kernel
theorem dX4_tell_77 : decode cX4_tell 77 = .ok (.aload_n 0, 1) := by decide +kernel
theorem dX4_tell_78 : decode cX4_tell 78 = .ok (.iconst 3, 1) := by decide +kernel
theorem dX4_tell_79 : decode cX4_tell 79 = .ok (.invokevirtual 63, 3) := by decide +kernel
theorem dX4_tell_82 : decode cX4_tell 82 = .ok (.ireturn, 1) := by decide +kernel
theorem dX4_tell_83 : decode cX4_tell 83 = .ok (.aload_n 0, 1) := by decide +kernel
theorem dX4_tell_84 : decode cX4_tell 84 = .ok (.getfield 18, 3) := by decide +kernel
theorem dX4_tell_87 : decode cX4_tell 87 = .ok (.invokevirtual 28, 3) := by decide +kernel
theorem dX4_tell_90 : decode cX4_tell 90 = .ok (.ireturn, 1) := by decide +kernel
theorem dX4_tell_91 : decode cX4_tell 91 = .ok (.aload_n 0, 1) := by decide +kernel
theorem dX4_tell_92 : decode cX4_tell 92 = .ok (.getfield 21, 3) := by decide +kernel
theorem dX4_tell_95 : decode cX4_tell 95 = .ok (.invokevirtual 28, 3) := by decide +kernel
theorem dX4_tell_98 : decode cX4_tell 98 = .ok (.ireturn, 1) := by decide +kernel
theorem dX4_tell_99 : decode cX4_tell 99 = .ok (.aload_n 0, 1) := by decide +kernel
theorem dX4_tell_100 : decode cX4_tell 100 = .ok (.invokevirtual 67, 3) := by decide +kernel
theorem dX4_tell_103 : decode cX4_tell 103 = .ok (.ireturn, 1) := by decide +kernel
theorem dX4_tell_104 : decode cX4_tell 104 = .ok (.aload_n 0, 1) := by decide +kernel
theorem dX4_tell_105 : decode cX4_tell 105 = .ok (.iconst 4, 1) := by decide +kernel
theorem dX4_tell_106 : decode cX4_tell 106 = .ok (.invokevirtual 70, 3) := by decide +kernel
theorem dX4_tell_109 : decode cX4_tell 109 = .ok (.ireturn, 1) := by decide +kernel
theorem dX4_tell_110 : decode cX4_tell 110 = .ok (.aload_n 0, 1) := by decide +kernel
theorem dX4_tell_111 : decode cX4_tell 111 = .ok (.bipush 6, 2) := by decide +kernel
theorem dX4_tell_113 : decode cX4_tell 113 = .ok (.invokevirtual 70, 3) := by decide +kernel
theorem dX4_tell_116 : decode cX4_tell 116 = .ok (.ireturn, 1) := by decide +kernel
theorem dX4_tellEngine_0 : decode cX4_tellEngine 0 = .ok (.iload_n 2, 1) := by decide +kernel
theorem dX4_tellEngine_1 : decode cX4_tellEngine 1 = .ok (.tableswitch 97 0 8 #[51, 56, 61, 66, 71, 76, 81, 86, 92], 51) := by decide +kernel
theorem dX4_tellEngine_52 : decode cX4_tellEngine 52 = .ok (.aload_n 1, 1) := by decide +kernel
theorem dX4_tellEngine_53 : decode cX4_tellEngine 53 = .ok (.getfield 73, 3) := by decide +kernel
theorem dX4_tellEngine_56 : decode cX4_tellEngine 56 = .ok (.ireturn, 1) := by decide +kernel
theorem dX4_tellEngine_57 : decode cX4_tellEngine 57 = .ok (.aload_n 1, 1) := by decide +kernel
theorem dX4_tellEngine_58 : decode cX4_tellEngine 58 = .ok (.getfield 76, 3) := by decide +kernel
theorem dX4_tellEngine_61 : decode cX4_tellEngine 61 = .ok (.ireturn, 1) := by decide +kernel
theorem dX4_tellEngine_62 : decode cX4_tellEngine 62 = .ok (.aload_n 1, 1) := by decide +kernel
theorem dX4_tellEngine_63 : decode cX4_tellEngine 63 = .ok (.getfield 79, 3) := by decide +kernel
theorem dX4_tellEngine_66 : decode cX4_tellEngine 66 = .ok (.ireturn, 1) := by decide +kernel
theorem dX4_tellEngine_67 : decode cX4_tellEngine 67 = .ok (.aload_n 1, 1) := by decide +kernel
theorem dX4_tellEngine_68 : decode cX4_tellEngine 68 = .ok (.getfield 82, 3) := by decide +kernel
theorem dX4_tellEngine_71 : decode cX4_tellEngine 71 = .ok (.ireturn, 1) := by decide +kernel
theorem dX4_tellEngine_72 : decode cX4_tellEngine 72 = .ok (.aload_n 1, 1) := by decide +kernel
theorem dX4_tellEngine_73 : decode cX4_tellEngine 73 = .ok (.getfield 85, 3) := by decide +kernel
theorem dX4_tellEngine_76 : decode cX4_tellEngine 76 = .ok (.ireturn, 1) := by decide +kernel
theorem dX4_tellEngine_77 : decode cX4_tellEngine 77 = .ok (.aload_n 1, 1) := by decide +kernel
theorem dX4_tellEngine_78 : decode cX4_tellEngine 78 = .ok (.getfield 88, 3) := by decide +kernel
theorem dX4_tellEngine_81 : decode cX4_tellEngine 81 = .ok (.ireturn, 1) := by decide +kernel
theorem dX4_tellEngine_82 : decode cX4_tellEngine 82 = .ok (.aload_n 1, 1) := by decide +kernel
theorem dX4_tellEngine_83 : decode cX4_tellEngine 83 = .ok (.getfield 91, 3) := by decide +kernel
theorem dX4_tellEngine_86 : decode cX4_tellEngine 86 = .ok (.ireturn, 1) := by decide +kernel
theorem dX4_tellEngine_87 : decode cX4_tellEngine 87 = .ok (.aload_n 0, 1) := by decide +kernel
theorem dX4_tellEngine_88 : decode cX4_tellEngine 88 = .ok (.aload_n 1, 1) := by decide +kernel
theorem dX4_tellEngine_89 : decode cX4_tellEngine 89 = .ok (.invokevirtual 94, 3) := by decide +kernel
theorem dX4_tellEngine_92 : decode cX4_tellEngine 92 = .ok (.ireturn, 1) := by decide +kernel
theorem dX4_tellEngine_93 : decode cX4_tellEngine 93 = .ok (.aload_n 1, 1) := by decide +kernel
theorem dX4_tellEngine_94 : decode cX4_tellEngine 94 = .ok (.getfield 98, 3) := by decide +kernel
theorem dX4_tellEngine_97 : decode cX4_tellEngine 97 = .ok (.ireturn, 1) := by decide +kernel
theorem dX4_tellEngine_98 : decode cX4_tellEngine 98 = .ok (.aload_n 1, 1) := by decide +kernel
theorem dX4_tellEngine_99 : decode cX4_tellEngine 99 = .ok (.invokevirtual 101, 3) := by decide +kernel
theorem dX4_tellEngine_102 : decode cX4_tellEngine 102 = .ok (.ireturn, 1) := by decide +kernel
theorem dX4_housesThatAre_0 : decode cX4_housesThatAre 0 = .ok (.iconst 0, 1) := by decide +kernel
theorem dX4_housesThatAre_1 : decode cX4_housesThatAre 1 = .ok (.istore_n 2, 1) := by decide +kernel
theorem dX4_housesThatAre_2 : decode cX4_housesThatAre 2 = .ok (.iconst 0, 1) := by decide +kernel
theorem dX4_housesThatAre_3 : decode cX4_housesThatAre 3 = .ok (.istore_n 3, 1) := by decide +kernel
theorem dX4_housesThatAre_4 : decode cX4_housesThatAre 4 = .ok (.iload_n 3, 1) := by decide +kernel
theorem dX4_housesThatAre_5 : decode cX4_housesThatAre 5 = .ok (.aload_n 0, 1) := by decide +kernel
theorem dX4_housesThatAre_6 : decode cX4_housesThatAre 6 = .ok (.getfield 12, 3) := by decide +kernel
theorem dX4_housesThatAre_9 : decode cX4_housesThatAre 9 = .ok (.invokevirtual 28, 3) := by decide +kernel
theorem dX4_housesThatAre_12 : decode cX4_housesThatAre 12 = .ok (.if_icmp .ge 30, 3) := by decide +kernel
theorem dX4_housesThatAre_15 : decode cX4_housesThatAre 15 = .ok (.aload_n 0, 1) := by decide +kernel
theorem dX4_housesThatAre_16 : decode cX4_housesThatAre 16 = .ok (.getfield 12, 3) := by decide +kernel
theorem dX4_housesThatAre_19 : decode cX4_housesThatAre 19 = .ok (.iload_n 3, 1) := by decide +kernel
theorem dX4_housesThatAre_20 : decode cX4_housesThatAre 20 = .ok (.invokevirtual 41, 3) := by decide +kernel
theorem dX4_housesThatAre_23 : decode cX4_housesThatAre 23 = .ok (.checkcast 32, 3) := by decide +kernel
theorem dX4_housesThatAre_26 : decode cX4_housesThatAre 26 = .ok (.getfield 104, 3) := by decide +kernel
theorem dX4_housesThatAre_29 : decode cX4_housesThatAre 29 = .ok (.iload_n 1, 1) := by decide +kernel
theorem dX4_housesThatAre_30 : decode cX4_housesThatAre 30 = .ok (.if_icmp .ne 6, 3) := by decide +kernel
theorem dX4_housesThatAre_33 : decode cX4_housesThatAre 33 = .ok (.iinc 2 1, 3) := by decide +kernel
theorem dX4_housesThatAre_36 : decode cX4_housesThatAre 36 = .ok (.iinc 3 1, 3) := by decide +kernel
theorem dX4_housesThatAre_39 : decode cX4_housesThatAre 39 = .ok (.goto (-35), 3) := by decide +kernel
theorem dX4_housesThatAre_42 : decode cX4_housesThatAre 42 = .ok (.iload_n 2, 1) := by decide +kernel
theorem dX4_housesThatAre_43 : decode cX4_housesThatAre 43 = .ok (.ireturn, 1) := by decide +kernel
theorem dX4_sumOverHouses_0 : decode cX4_sumOverHouses 0 = .ok (.iconst 0, 1) := by decide +kernel
theorem dX4_sumOverHouses_1 : decode cX4_sumOverHouses 1 = .ok (.istore_n 2, 1) := by decide +kernel
theorem dX4_sumOverHouses_2 : decode cX4_sumOverHouses 2 = .ok (.iconst 0, 1) := by decide +kernel
theorem dX4_sumOverHouses_3 : decode cX4_sumOverHouses 3 = .ok (.istore_n 3, 1) := by decide +kernel
theorem dX4_sumOverHouses_4 : decode cX4_sumOverHouses 4 = .ok (.iload_n 3, 1) := by decide +kernel
theorem dX4_sumOverHouses_5 : decode cX4_sumOverHouses 5 = .ok (.aload_n 0, 1) := by decide +kernel
theorem dX4_sumOverHouses_6 : decode cX4_sumOverHouses 6 = .ok (.getfield 12, 3) := by decide +kernel
theorem dX4_sumOverHouses_9 : decode cX4_sumOverHouses 9 = .ok (.invokevirtual 28, 3) := by decide +kernel
theorem dX4_sumOverHouses_12 : decode cX4_sumOverHouses 12 = .ok (.if_icmp .ge 27, 3) := by decide +kernel
theorem dX4_sumOverHouses_15 : decode cX4_sumOverHouses 15 = .ok (.iload_n 2, 1) := by decide +kernel
theorem dX4_sumOverHouses_16 : decode cX4_sumOverHouses 16 = .ok (.aload_n 0, 1) := by decide +kernel
theorem dX4_sumOverHouses_17 : decode cX4_sumOverHouses 17 = .ok (.getfield 12, 3) := by decide +kernel
theorem dX4_sumOverHouses_20 : decode cX4_sumOverHouses 20 = .ok (.iload_n 3, 1) := by decide +kernel
theorem dX4_sumOverHouses_21 : decode cX4_sumOverHouses 21 = .ok (.invokevirtual 41, 3) := by decide +kernel
theorem dX4_sumOverHouses_24 : decode cX4_sumOverHouses 24 = .ok (.checkcast 32, 3) := by decide +kernel
theorem dX4_sumOverHouses_27 : decode cX4_sumOverHouses 27 = .ok (.iload_n 1, 1) := by decide +kernel
theorem dX4_sumOverHouses_28 : decode cX4_sumOverHouses 28 = .ok (.invokevirtual 107, 3) := by decide +kernel
theorem dX4_sumOverHouses_31 : decode cX4_sumOverHouses 31 = .ok (.iadd, 1) := by decide +kernel
theorem dX4_sumOverHouses_32 : decode cX4_sumOverHouses 32 = .ok (.istore_n 2, 1) := by decide +kernel
theorem dX4_sumOverHouses_33 : decode cX4_sumOverHouses 33 = .ok (.iinc 3 1, 3) := by decide +kernel
theorem dX4_sumOverHouses_36 : decode cX4_sumOverHouses 36 = .ok (.goto (-32), 3) := by decide +kernel
theorem dX4_sumOverHouses_39 : decode cX4_sumOverHouses 39 = .ok (.iload_n 2, 1) := by decide +kernel
theorem dX4_sumOverHouses_40 : decode cX4_sumOverHouses 40 = .ok (.ireturn, 1) := by decide +kernel
theorem dX4_waterOfPonds_0 : decode cX4_waterOfPonds 0 = .ok (.iconst 0, 1) := by decide +kernel
theorem dX4_waterOfPonds_1 : decode cX4_waterOfPonds 1 = .ok (.istore_n 1, 1) := by decide +kernel
theorem dX4_waterOfPonds_2 : decode cX4_waterOfPonds 2 = .ok (.iconst 0, 1) := by decide +kernel
theorem dX4_waterOfPonds_3 : decode cX4_waterOfPonds 3 = .ok (.istore_n 2, 1) := by decide +kernel
theorem dX4_waterOfPonds_4 : decode cX4_waterOfPonds 4 = .ok (.iload_n 2, 1) := by decide +kernel
theorem dX4_waterOfPonds_5 : decode cX4_waterOfPonds 5 = .ok (.aload_n 0, 1) := by decide +kernel
theorem dX4_waterOfPonds_6 : decode cX4_waterOfPonds 6 = .ok (.getfield 18, 3) := by decide +kernel
theorem dX4_waterOfPonds_9 : decode cX4_waterOfPonds 9 = .ok (.invokevirtual 28, 3) := by decide +kernel
theorem dX4_waterOfPonds_12 : decode cX4_waterOfPonds 12 = .ok (.if_icmp .ge 26, 3) := by decide +kernel
theorem dX4_waterOfPonds_15 : decode cX4_waterOfPonds 15 = .ok (.iload_n 1, 1) := by decide +kernel
theorem dX4_waterOfPonds_16 : decode cX4_waterOfPonds 16 = .ok (.aload_n 0, 1) := by decide +kernel
theorem dX4_waterOfPonds_17 : decode cX4_waterOfPonds 17 = .ok (.getfield 18, 3) := by decide +kernel
theorem dX4_waterOfPonds_20 : decode cX4_waterOfPonds 20 = .ok (.iload_n 2, 1) := by decide +kernel
theorem dX4_waterOfPonds_21 : decode cX4_waterOfPonds 21 = .ok (.invokevirtual 41, 3) := by decide +kernel
theorem dX4_waterOfPonds_24 : decode cX4_waterOfPonds 24 = .ok (.checkcast 49, 3) := by decide +kernel
theorem dX4_waterOfPonds_27 : decode cX4_waterOfPonds 27 = .ok (.getfield 110, 3) := by decide +kernel
theorem dX4_waterOfPonds_30 : decode cX4_waterOfPonds 30 = .ok (.iadd, 1) := by decide +kernel
theorem dX4_waterOfPonds_31 : decode cX4_waterOfPonds 31 = .ok (.istore_n 1, 1) := by decide +kernel
theorem dX4_waterOfPonds_32 : decode cX4_waterOfPonds 32 = .ok (.iinc 2 1, 3) := by decide +kernel
theorem dX4_waterOfPonds_35 : decode cX4_waterOfPonds 35 = .ok (.goto (-31), 3) := by decide +kernel
theorem dX4_waterOfPonds_38 : decode cX4_waterOfPonds 38 = .ok (.iload_n 1, 1) := by decide +kernel
theorem dX4_waterOfPonds_39 : decode cX4_waterOfPonds 39 = .ok (.ireturn, 1) := by decide +kernel
theorem dX4_enginesOn_0 : decode cX4_enginesOn 0 = .ok (.iconst 0, 1) := by decide +kernel
theorem dX4_enginesOn_1 : decode cX4_enginesOn 1 = .ok (.istore_n 2, 1) := by decide +kernel
theorem dX4_enginesOn_2 : decode cX4_enginesOn 2 = .ok (.iconst 0, 1) := by decide +kernel
theorem dX4_enginesOn_3 : decode cX4_enginesOn 3 = .ok (.istore_n 3, 1) := by decide +kernel
theorem dX4_enginesOn_4 : decode cX4_enginesOn 4 = .ok (.iload_n 3, 1) := by decide +kernel
theorem dX4_enginesOn_5 : decode cX4_enginesOn 5 = .ok (.aload_n 0, 1) := by decide +kernel
theorem dX4_enginesOn_6 : decode cX4_enginesOn 6 = .ok (.getfield 21, 3) := by decide +kernel
theorem dX4_enginesOn_9 : decode cX4_enginesOn 9 = .ok (.invokevirtual 28, 3) := by decide +kernel
theorem dX4_enginesOn_12 : decode cX4_enginesOn 12 = .ok (.if_icmp .ge 30, 3) := by decide +kernel
theorem dX4_enginesOn_15 : decode cX4_enginesOn 15 = .ok (.aload_n 0, 1) := by decide +kernel
theorem dX4_enginesOn_16 : decode cX4_enginesOn 16 = .ok (.getfield 21, 3) := by decide +kernel
theorem dX4_enginesOn_19 : decode cX4_enginesOn 19 = .ok (.iload_n 3, 1) := by decide +kernel
theorem dX4_enginesOn_20 : decode cX4_enginesOn 20 = .ok (.invokevirtual 41, 3) := by decide +kernel
theorem dX4_enginesOn_23 : decode cX4_enginesOn 23 = .ok (.checkcast 57, 3) := by decide +kernel
theorem dX4_enginesOn_26 : decode cX4_enginesOn 26 = .ok (.getfield 73, 3) := by decide +kernel
theorem dX4_enginesOn_29 : decode cX4_enginesOn 29 = .ok (.iload_n 1, 1) := by decide +kernel
theorem dX4_enginesOn_30 : decode cX4_enginesOn 30 = .ok (.if_icmp .ne 6, 3) := by decide +kernel
theorem dX4_enginesOn_33 : decode cX4_enginesOn 33 = .ok (.iinc 2 1, 3) := by decide +kernel
theorem dX4_enginesOn_36 : decode cX4_enginesOn 36 = .ok (.iinc 3 1, 3) := by decide +kernel
theorem dX4_enginesOn_39 : decode cX4_enginesOn 39 = .ok (.goto (-35), 3) := by decide +kernel
theorem dX4_enginesOn_42 : decode cX4_enginesOn 42 = .ok (.iload_n 2, 1) := by decide +kernel
theorem dX4_enginesOn_43 : decode cX4_enginesOn 43 = .ok (.ireturn, 1) := by decide +kernel
theorem dX4_isGoal_0 : decode cX4_isGoal 0 = .ok (.iconst 0, 1) := by decide +kernel
theorem dX4_isGoal_1 : decode cX4_isGoal 1 = .ok (.istore_n 2, 1) := by decide +kernel
theorem dX4_isGoal_2 : decode cX4_isGoal 2 = .ok (.iload_n 2, 1) := by decide +kernel
theorem dX4_isGoal_3 : decode cX4_isGoal 3 = .ok (.aload_n 0, 1) := by decide +kernel
theorem dX4_isGoal_4 : decode cX4_isGoal 4 = .ok (.getfield 21, 3) := by decide +kernel
theorem dX4_isGoal_7 : decode cX4_isGoal 7 = .ok (.invokevirtual 28, 3) := by decide +kernel
theorem dX4_isGoal_10 : decode cX4_isGoal 10 = .ok (.if_icmp .ge 29, 3) := by decide +kernel
theorem dX4_isGoal_13 : decode cX4_isGoal 13 = .ok (.aload_n 0, 1) := by decide +kernel
theorem dX4_isGoal_14 : decode cX4_isGoal 14 = .ok (.getfield 21, 3) := by decide +kernel
theorem dX4_isGoal_17 : decode cX4_isGoal 17 = .ok (.iload_n 2, 1) := by decide +kernel
theorem dX4_isGoal_18 : decode cX4_isGoal 18 = .ok (.invokevirtual 41, 3) := by decide +kernel
theorem dX4_isGoal_21 : decode cX4_isGoal 21 = .ok (.checkcast 57, 3) := by decide +kernel
theorem dX4_isGoal_24 : decode cX4_isGoal 24 = .ok (.getfield 113, 3) := by decide +kernel
theorem dX4_isGoal_27 : decode cX4_isGoal 27 = .ok (.iload_n 1, 1) := by decide +kernel
theorem dX4_isGoal_28 : decode cX4_isGoal 28 = .ok (.if_icmp .ne 5, 3) := by decide +kernel
theorem dX4_isGoal_31 : decode cX4_isGoal 31 = .ok (.iconst 1, 1) := by decide +kernel
theorem dX4_isGoal_32 : decode cX4_isGoal 32 = .ok (.ireturn, 1) := by decide +kernel
theorem dX4_isGoal_33 : decode cX4_isGoal 33 = .ok (.iinc 2 1, 3) := by decide +kernel
theorem dX4_isGoal_36 : decode cX4_isGoal 36 = .ok (.goto (-34), 3) := by decide +kernel
theorem dX4_isGoal_39 : decode cX4_isGoal 39 = .ok (.iconst 0, 1) := by decide +kernel
theorem dX4_isGoal_40 : decode cX4_isGoal 40 = .ok (.ireturn, 1) := by decide +kernel
theorem dX4_heatNear_0 : decode cX4_heatNear 0 = .ok (.iconst 0, 1) := by decide +kernel
theorem dX4_heatNear_1 : decode cX4_heatNear 1 = .ok (.istore_n 2, 1) := by decide +kernel
theorem dX4_heatNear_2 : decode cX4_heatNear 2 = .ok (.iconst 0, 1) := by decide +kernel
theorem dX4_heatNear_3 : decode cX4_heatNear 3 = .ok (.istore_n 3, 1) := by decide +kernel
theorem dX4_heatNear_4 : decode cX4_heatNear 4 = .ok (.iload_n 3, 1) := by decide +kernel
theorem dX4_heatNear_5 : decode cX4_heatNear 5 = .ok (.aload_n 0, 1) := by decide +kernel
theorem dX4_heatNear_6 : decode cX4_heatNear 6 = .ok (.getfield 12, 3) := by decide +kernel
theorem dX4_heatNear_9 : decode cX4_heatNear 9 = .ok (.invokevirtual 28, 3) := by decide +kernel
theorem dX4_heatNear_12 : decode cX4_heatNear 12 = .ok (.if_icmp .ge 51, 3) := by decide +kernel
theorem dX4_heatNear_15 : decode cX4_heatNear 15 = .ok (.aload_n 0, 1) := by decide +kernel
theorem dX4_heatNear_16 : decode cX4_heatNear 16 = .ok (.getfield 12, 3) := by decide +kernel
theorem dX4_heatNear_19 : decode cX4_heatNear 19 = .ok (.iload_n 3, 1) := by decide +kernel
theorem dX4_heatNear_20 : decode cX4_heatNear 20 = .ok (.invokevirtual 41, 3) := by decide +kernel
theorem dX4_heatNear_23 : decode cX4_heatNear 23 = .ok (.checkcast 32, 3) := by decide +kernel
theorem dX4_heatNear_26 : decode cX4_heatNear 26 = .ok (.astore 4, 2) := by decide +kernel
theorem dX4_heatNear_28 : decode cX4_heatNear 28 = .ok (.aload 4, 2) := by decide +kernel
theorem dX4_heatNear_30 : decode cX4_heatNear 30 = .ok (.getfield 104, 3) := by decide +kernel
theorem dX4_heatNear_33 : decode cX4_heatNear 33 = .ok (.iconst 1, 1) := by decide +kernel
theorem dX4_heatNear_34 : decode cX4_heatNear 34 = .ok (.if_icmp .ne 23, 3) := by decide +kernel
theorem dX4_heatNear_37 : decode cX4_heatNear 37 = .ok (.aload 4, 2) := by decide +kernel
theorem dX4_heatNear_39 : decode cX4_heatNear 39 = .ok (.getfield 116, 3) := by decide +kernel
theorem dX4_heatNear_42 : decode cX4_heatNear 42 = .ok (.iload_n 1, 1) := by decide +kernel
theorem dX4_heatNear_43 : decode cX4_heatNear 43 = .ok (.invokestatic 117, 3) := by decide +kernel
theorem dX4_heatNear_46 : decode cX4_heatNear 46 = .ok (.ifCond .eq 11, 3) := by decide +kernel
theorem dX4_heatNear_49 : decode cX4_heatNear 49 = .ok (.iload_n 2, 1) := by decide +kernel
theorem dX4_heatNear_50 : decode cX4_heatNear 50 = .ok (.aload 4, 2) := by decide +kernel
theorem dX4_heatNear_52 : decode cX4_heatNear 52 = .ok (.getfield 121, 3) := by decide +kernel
theorem dX4_heatNear_55 : decode cX4_heatNear 55 = .ok (.iadd, 1) := by decide +kernel
theorem dX4_heatNear_56 : decode cX4_heatNear 56 = .ok (.istore_n 2, 1) := by decide +kernel
theorem dX4_heatNear_57 : decode cX4_heatNear 57 = .ok (.iinc 3 1, 3) := by decide +kernel
theorem dX4_heatNear_60 : decode cX4_heatNear 60 = .ok (.goto (-56), 3) := by decide +kernel
theorem dX4_heatNear_63 : decode cX4_heatNear 63 = .ok (.iload_n 2, 1) := by decide +kernel
theorem dX4_heatNear_64 : decode cX4_heatNear 64 = .ok (.ireturn, 1) := by decide +kernel
theorem dX4_pondBy_0 : decode cX4_pondBy 0 = .ok (.iconst 0, 1) := by decide +kernel
theorem dX4_pondBy_1 : decode cX4_pondBy 1 = .ok (.istore_n 2, 1) := by decide +kernel
theorem dX4_pondBy_2 : decode cX4_pondBy 2 = .ok (.iload_n 2, 1) := by decide +kernel
theorem dX4_pondBy_3 : decode cX4_pondBy 3 = .ok (.aload_n 0, 1) := by decide +kernel
theorem dX4_pondBy_4 : decode cX4_pondBy 4 = .ok (.getfield 18, 3) := by decide +kernel
theorem dX4_pondBy_7 : decode cX4_pondBy 7 = .ok (.invokevirtual 28, 3) := by decide +kernel
theorem dX4_pondBy_10 : decode cX4_pondBy 10 = .ok (.if_icmp .ge 42, 3) := by decide +kernel
theorem dX4_pondBy_13 : decode cX4_pondBy 13 = .ok (.aload_n 1, 1) := by decide +kernel
theorem dX4_pondBy_14 : decode cX4_pondBy 14 = .ok (.invokevirtual 124, 3) := by decide +kernel
theorem dX4_pondBy_17 : decode cX4_pondBy 17 = .ok (.ifCond .eq 35, 3) := by decide +kernel
theorem dX4_pondBy_20 : decode cX4_pondBy 20 = .ok (.aload_n 0, 1) := by decide +kernel
theorem dX4_pondBy_21 : decode cX4_pondBy 21 = .ok (.getfield 18, 3) := by decide +kernel
theorem dX4_pondBy_24 : decode cX4_pondBy 24 = .ok (.iload_n 2, 1) := by decide +kernel
theorem dX4_pondBy_25 : decode cX4_pondBy 25 = .ok (.invokevirtual 41, 3) := by decide +kernel
theorem dX4_pondBy_28 : decode cX4_pondBy 28 = .ok (.checkcast 49, 3) := by decide +kernel
theorem dX4_pondBy_31 : decode cX4_pondBy 31 = .ok (.getfield 128, 3) := by decide +kernel
theorem dX4_pondBy_34 : decode cX4_pondBy 34 = .ok (.aload_n 1, 1) := by decide +kernel
theorem dX4_pondBy_35 : decode cX4_pondBy 35 = .ok (.getfield 73, 3) := by decide +kernel
theorem dX4_pondBy_38 : decode cX4_pondBy 38 = .ok (.invokestatic 117, 3) := by decide +kernel
theorem dX4_pondBy_41 : decode cX4_pondBy 41 = .ok (.ifCond .eq 5, 3) := by decide +kernel
theorem dX4_pondBy_44 : decode cX4_pondBy 44 = .ok (.iload_n 2, 1) := by decide +kernel
theorem dX4_pondBy_45 : decode cX4_pondBy 45 = .ok (.ireturn, 1) := by decide +kernel
theorem dX4_pondBy_46 : decode cX4_pondBy 46 = .ok (.iinc 2 1, 3) := by decide +kernel
theorem dX4_pondBy_49 : decode cX4_pondBy 49 = .ok (.goto (-47), 3) := by decide +kernel
theorem dX4_pondBy_52 : decode cX4_pondBy 52 = .ok (.iconst (-1), 1) := by decide +kernel
theorem dX4_pondBy_53 : decode cX4_pondBy 53 = .ok (.ireturn, 1) := by decide +kernel
theorem dX4_isEngine_0 : decode cX4_isEngine 0 = .ok (.iload_n 1, 1) := by decide +kernel
theorem dX4_isEngine_1 : decode cX4_isEngine 1 = .ok (.ifCond .lt 18, 3) := by decide +kernel
theorem dX4_isEngine_4 : decode cX4_isEngine 4 = .ok (.iload_n 1, 1) := by decide +kernel
theorem dX4_isEngine_5 : decode cX4_isEngine 5 = .ok (.aload_n 0, 1) := by decide +kernel
theorem dX4_isEngine_6 : decode cX4_isEngine 6 = .ok (.getfield 21, 3) := by decide +kernel
theorem dX4_isEngine_9 : decode cX4_isEngine 9 = .ok (.invokevirtual 28, 3) := by decide +kernel
theorem dX4_isEngine_12 : decode cX4_isEngine 12 = .ok (.if_icmp .ge 7, 3) := by decide +kernel
theorem dX4_isEngine_15 : decode cX4_isEngine 15 = .ok (.iconst 1, 1) := by decide +kernel
theorem dX4_isEngine_16 : decode cX4_isEngine 16 = .ok (.goto 4, 3) := by decide +kernel
theorem dX4_isEngine_19 : decode cX4_isEngine 19 = .ok (.iconst 0, 1) := by decide +kernel
theorem dX4_isEngine_20 : decode cX4_isEngine 20 = .ok (.ireturn, 1) := by decide +kernel
theorem dX4_isHouse_0 : decode cX4_isHouse 0 = .ok (.iload_n 1, 1) := by decide +kernel
theorem dX4_isHouse_1 : decode cX4_isHouse 1 = .ok (.ifCond .lt 18, 3) := by decide +kernel
theorem dX4_isHouse_4 : decode cX4_isHouse 4 = .ok (.iload_n 1, 1) := by decide +kernel
theorem dX4_isHouse_5 : decode cX4_isHouse 5 = .ok (.aload_n 0, 1) := by decide +kernel
theorem dX4_isHouse_6 : decode cX4_isHouse 6 = .ok (.getfield 12, 3) := by decide +kernel
theorem dX4_isHouse_9 : decode cX4_isHouse 9 = .ok (.invokevirtual 28, 3) := by decide +kernel
theorem dX4_isHouse_12 : decode cX4_isHouse 12 = .ok (.if_icmp .ge 7, 3) := by decide +kernel
theorem dX4_isHouse_15 : decode cX4_isHouse 15 = .ok (.iconst 1, 1) := by decide +kernel
theorem dX4_isHouse_16 : decode cX4_isHouse 16 = .ok (.goto 4, 3) := by decide +kernel
theorem dX4_isHouse_19 : decode cX4_isHouse 19 = .ok (.iconst 0, 1) := by decide +kernel
theorem dX4_isHouse_20 : decode cX4_isHouse 20 = .ok (.ireturn, 1) := by decide +kernel
theorem dX4_hosesLead_0 : decode cX4_hosesLead 0 = .ok (.iload_n 1, 1) := by decide +kernel
theorem dX4_hosesLead_1 : decode cX4_hosesLead 1 = .ok (.istore_n 3, 1) := by decide +kernel
theorem dX4_hosesLead_2 : decode cX4_hosesLead 2 = .ok (.iconst 0, 1) := by decide +kernel
theorem dX4_hosesLead_3 : decode cX4_hosesLead 3 = .ok (.istore 4, 2) := by decide +kernel
theorem dX4_hosesLead_5 : decode cX4_hosesLead 5 = .ok (.iload 4, 2) := by decide +kernel
theorem dX4_hosesLead_7 : decode cX4_hosesLead 7 = .ok (.bipush 6, 2) := by decide +kernel
theorem dX4_hosesLead_9 : decode cX4_hosesLead 9 = .ok (.if_icmp .gt 39, 3) := by decide +kernel
theorem dX4_hosesLead_12 : decode cX4_hosesLead 12 = .ok (.aload_n 0, 1) := by decide +kernel
theorem dX4_hosesLead_13 : decode cX4_hosesLead 13 = .ok (.iload_n 3, 1) := by decide +kernel
theorem dX4_hosesLead_14 : decode cX4_hosesLead 14 = .ok (.invokevirtual 129, 3) := by decide +kernel
theorem dX4_hosesLead_17 : decode cX4_hosesLead 17 = .ok (.ifCond .eq 31, 3) := by decide +kernel
theorem dX4_hosesLead_20 : decode cX4_hosesLead 20 = .ok (.iload_n 3, 1) := by decide +kernel
theorem dX4_hosesLead_21 : decode cX4_hosesLead 21 = .ok (.iload_n 2, 1) := by decide +kernel
theorem dX4_hosesLead_22 : decode cX4_hosesLead 22 = .ok (.if_icmp .ne 5, 3) := by decide +kernel
theorem dX4_hosesLead_25 : decode cX4_hosesLead 25 = .ok (.iconst 1, 1) := by decide +kernel
theorem dX4_hosesLead_26 : decode cX4_hosesLead 26 = .ok (.ireturn, 1) := by decide +kernel
theorem dX4_hosesLead_27 : decode cX4_hosesLead 27 = .ok (.aload_n 0, 1) := by decide +kernel
theorem dX4_hosesLead_28 : decode cX4_hosesLead 28 = .ok (.getfield 21, 3) := by decide +kernel
theorem dX4_hosesLead_31 : decode cX4_hosesLead 31 = .ok (.iload_n 3, 1) := by decide +kernel
theorem dX4_hosesLead_32 : decode cX4_hosesLead 32 = .ok (.invokevirtual 41, 3) := by decide +kernel
theorem dX4_hosesLead_35 : decode cX4_hosesLead 35 = .ok (.checkcast 57, 3) := by decide +kernel
theorem dX4_hosesLead_38 : decode cX4_hosesLead 38 = .ok (.getfield 91, 3) := by decide +kernel
theorem dX4_hosesLead_41 : decode cX4_hosesLead 41 = .ok (.istore_n 3, 1) := by decide +kernel
theorem dX4_hosesLead_42 : decode cX4_hosesLead 42 = .ok (.iinc 4 1, 3) := by decide +kernel
theorem dX4_hosesLead_45 : decode cX4_hosesLead 45 = .ok (.goto (-40), 3) := by decide +kernel
theorem dX4_hosesLead_48 : decode cX4_hosesLead 48 = .ok (.iconst 0, 1) := by decide +kernel
theorem dX4_hosesLead_49 : decode cX4_hosesLead 49 = .ok (.ireturn, 1) := by decide +kernel
theorem dX4_takeUpHosesOfAndTo_0 : decode cX4_takeUpHosesOfAndTo 0 = .ok (.iconst 0, 1) := by decide +kernel
theorem dX4_takeUpHosesOfAndTo_1 : decode cX4_takeUpHosesOfAndTo 1 = .ok (.istore_n 2, 1) := by decide +kernel
theorem dX4_takeUpHosesOfAndTo_2 : decode cX4_takeUpHosesOfAndTo 2 = .ok (.iload_n 2, 1) := by decide +kernel
theorem dX4_takeUpHosesOfAndTo_3 : decode cX4_takeUpHosesOfAndTo 3 = .ok (.aload_n 0, 1) := by decide +kernel
theorem dX4_takeUpHosesOfAndTo_4 : decode cX4_takeUpHosesOfAndTo 4 = .ok (.getfield 21, 3) := by decide +kernel
theorem dX4_takeUpHosesOfAndTo_7 : decode cX4_takeUpHosesOfAndTo 7 = .ok (.invokevirtual 28, 3) := by decide +kernel
theorem dX4_takeUpHosesOfAndTo_10 : decode cX4_takeUpHosesOfAndTo 10 = .ok (.if_icmp .ge 39, 3) := by decide +kernel
theorem dX4_takeUpHosesOfAndTo_13 : decode cX4_takeUpHosesOfAndTo 13 = .ok (.aload_n 0, 1) := by decide +kernel
theorem dX4_takeUpHosesOfAndTo_14 : decode cX4_takeUpHosesOfAndTo 14 = .ok (.getfield 21, 3) := by decide +kernel
theorem dX4_takeUpHosesOfAndTo_17 : decode cX4_takeUpHosesOfAndTo 17 = .ok (.iload_n 2, 1) := by decide +kernel
theorem dX4_takeUpHosesOfAndTo_18 : decode cX4_takeUpHosesOfAndTo 18 = .ok (.invokevirtual 41, 3) := by decide +kernel
theorem dX4_takeUpHosesOfAndTo_21 : decode cX4_takeUpHosesOfAndTo 21 = .ok (.checkcast 57, 3) := by decide +kernel
theorem dX4_takeUpHosesOfAndTo_24 : decode cX4_takeUpHosesOfAndTo 24 = .ok (.astore_n 3, 1) := by decide +kernel
theorem dX4_takeUpHosesOfAndTo_25 : decode cX4_takeUpHosesOfAndTo 25 = .ok (.iload_n 2, 1) := by decide +kernel
theorem dX4_takeUpHosesOfAndTo_26 : decode cX4_takeUpHosesOfAndTo 26 = .ok (.iload_n 1, 1) := by decide +kernel
theorem dX4_takeUpHosesOfAndTo_27 : decode cX4_takeUpHosesOfAndTo 27 = .ok (.if_icmp .eq 11, 3) := by decide +kernel
theorem dX4_takeUpHosesOfAndTo_30 : decode cX4_takeUpHosesOfAndTo 30 = .ok (.aload_n 3, 1) := by decide +kernel
theorem dX4_takeUpHosesOfAndTo_31 : decode cX4_takeUpHosesOfAndTo 31 = .ok (.getfield 91, 3) := by decide +kernel
theorem dX4_takeUpHosesOfAndTo_34 : decode cX4_takeUpHosesOfAndTo 34 = .ok (.iload_n 1, 1) := by decide +kernel
theorem dX4_takeUpHosesOfAndTo_35 : decode cX4_takeUpHosesOfAndTo 35 = .ok (.if_icmp .ne 8, 3) := by decide +kernel
theorem dX4_takeUpHosesOfAndTo_38 : decode cX4_takeUpHosesOfAndTo 38 = .ok (.aload_n 3, 1) := by decide +kernel
theorem dX4_takeUpHosesOfAndTo_39 : decode cX4_takeUpHosesOfAndTo 39 = .ok (.iconst (-1), 1) := by decide +kernel
theorem dX4_takeUpHosesOfAndTo_40 : decode cX4_takeUpHosesOfAndTo 40 = .ok (.putfield 91, 3) := by decide +kernel
theorem dX4_takeUpHosesOfAndTo_43 : decode cX4_takeUpHosesOfAndTo 43 = .ok (.iinc 2 1, 3) := by decide +kernel
theorem dX4_takeUpHosesOfAndTo_46 : decode cX4_takeUpHosesOfAndTo 46 = .ok (.goto (-44), 3) := by decide +kernel
theorem dX4_takeUpHosesOfAndTo_49 : decode cX4_takeUpHosesOfAndTo 49 = .ok (.return_, 1) := by decide +kernel
theorem dX4_goOn_0 : decode cX4_goOn 0 = .ok (.iconst 0, 1) := by decide +kernel
theorem dX4_goOn_1 : decode cX4_goOn 1 = .ok (.istore_n 2, 1) := by decide +kernel
theorem dX4_goOn_2 : decode cX4_goOn 2 = .ok (.iconst 0, 1) := by decide +kernel
theorem dX4_goOn_3 : decode cX4_goOn 3 = .ok (.istore_n 3, 1) := by decide +kernel
theorem dX4_goOn_4 : decode cX4_goOn 4 = .ok (.iload_n 3, 1) := by decide +kernel
theorem dX4_goOn_5 : decode cX4_goOn 5 = .ok (.iload_n 1, 1) := by decide +kernel
theorem dX4_goOn_6 : decode cX4_goOn 6 = .ok (.if_icmp .ge 70, 3) := by decide +kernel
theorem dX4_goOn_9 : decode cX4_goOn 9 = .ok (.aload_n 0, 1) := by decide +kernel
theorem dX4_goOn_10 : decode cX4_goOn 10 = .ok (.invokevirtual 133, 3) := by decide +kernel
theorem dX4_goOn_13 : decode cX4_goOn 13 = .ok (.aload_n 0, 1) := by decide +kernel
theorem dX4_goOn_14 : decode cX4_goOn 14 = .ok (.invokevirtual 136, 3) := by decide +kernel
theorem dX4_goOn_17 : decode cX4_goOn 17 = .ok (.iconst 0, 1) := by decide +kernel
theorem dX4_goOn_18 : decode cX4_goOn 18 = .ok (.istore 4, 2) := by decide +kernel
theorem dX4_goOn_20 : decode cX4_goOn 20 = .ok (.iload 4, 2) := by decide +kernel
theorem dX4_goOn_22 : decode cX4_goOn 22 = .ok (.aload_n 0, 1) := by decide +kernel
theorem dX4_goOn_23 : decode cX4_goOn 23 = .ok (.getfield 12, 3) := by decide +kernel
theorem dX4_goOn_26 : decode cX4_goOn 26 = .ok (.invokevirtual 28, 3) := by decide +kernel
theorem dX4_goOn_29 : decode cX4_goOn 29 = .ok (.if_icmp .ge 24, 3) := by decide +kernel
theorem dX4_goOn_32 : decode cX4_goOn 32 = .ok (.aload_n 0, 1) := by decide +kernel
theorem dX4_goOn_33 : decode cX4_goOn 33 = .ok (.getfield 12, 3) := by decide +kernel
theorem dX4_goOn_36 : decode cX4_goOn 36 = .ok (.iload 4, 2) := by decide +kernel
theorem dX4_goOn_38 : decode cX4_goOn 38 = .ok (.invokevirtual 41, 3) := by decide +kernel
theorem dX4_goOn_41 : decode cX4_goOn 41 = .ok (.checkcast 32, 3) := by decide +kernel
theorem dX4_goOn_44 : decode cX4_goOn 44 = .ok (.invokevirtual 139, 3) := by decide +kernel
theorem dX4_goOn_47 : decode cX4_goOn 47 = .ok (.iinc 4 1, 3) := by decide +kernel
theorem dX4_goOn_50 : decode cX4_goOn 50 = .ok (.goto (-30), 3) := by decide +kernel
theorem dX4_goOn_53 : decode cX4_goOn 53 = .ok (.iload_n 2, 1) := by decide +kernel
theorem dX4_goOn_54 : decode cX4_goOn 54 = .ok (.aload_n 0, 1) := by decide +kernel
theorem dX4_goOn_55 : decode cX4_goOn 55 = .ok (.invokevirtual 142, 3) := by decide +kernel
theorem dX4_goOn_58 : decode cX4_goOn 58 = .ok (.iadd, 1) := by decide +kernel
theorem dX4_goOn_59 : decode cX4_goOn 59 = .ok (.istore_n 2, 1) := by decide +kernel
theorem dX4_goOn_60 : decode cX4_goOn 60 = .ok (.aload_n 0, 1) := by decide +kernel
theorem dX4_goOn_61 : decode cX4_goOn 61 = .ok (.dup, 1) := by decide +kernel
theorem dX4_goOn_62 : decode cX4_goOn 62 = .ok (.getfield 24, 3) := by decide +kernel
theorem dX4_goOn_65 : decode cX4_goOn 65 = .ok (.iconst 1, 1) := by decide +kernel
theorem dX4_goOn_66 : decode cX4_goOn 66 = .ok (.iadd, 1) := by decide +kernel
theorem dX4_goOn_67 : decode cX4_goOn 67 = .ok (.putfield 24, 3) := by decide +kernel
theorem dX4_goOn_70 : decode cX4_goOn 70 = .ok (.iinc 3 1, 3) := by decide +kernel
theorem dX4_goOn_73 : decode cX4_goOn 73 = .ok (.goto (-69), 3) := by decide +kernel
theorem dX4_goOn_76 : decode cX4_goOn 76 = .ok (.iload_n 2, 1) := by decide +kernel
theorem dX4_goOn_77 : decode cX4_goOn 77 = .ok (.ireturn, 1) := by decide +kernel
theorem dX4_fireAndDrive_0 : decode cX4_fireAndDrive 0 = .ok (.iconst 0, 1) := by decide +kernel
theorem dX4_fireAndDrive_1 : decode cX4_fireAndDrive 1 = .ok (.istore_n 1, 1) := by decide +kernel
theorem dX4_fireAndDrive_2 : decode cX4_fireAndDrive 2 = .ok (.iload_n 1, 1) := by decide +kernel
theorem dX4_fireAndDrive_3 : decode cX4_fireAndDrive 3 = .ok (.aload_n 0, 1) := by decide +kernel
theorem dX4_fireAndDrive_4 : decode cX4_fireAndDrive 4 = .ok (.getfield 21, 3) := by decide +kernel
theorem dX4_fireAndDrive_7 : decode cX4_fireAndDrive 7 = .ok (.invokevirtual 28, 3) := by decide +kernel
theorem dX4_fireAndDrive_10 : decode cX4_fireAndDrive 10 = .ok (.if_icmp .ge 37, 3) := by decide +kernel
theorem dX4_fireAndDrive_13 : decode cX4_fireAndDrive 13 = .ok (.aload_n 0, 1) := by decide +kernel
theorem dX4_fireAndDrive_14 : decode cX4_fireAndDrive 14 = .ok (.getfield 21, 3) := by decide +kernel
theorem dX4_fireAndDrive_17 : decode cX4_fireAndDrive 17 = .ok (.iload_n 1, 1) := by decide +kernel
theorem dX4_fireAndDrive_18 : decode cX4_fireAndDrive 18 = .ok (.invokevirtual 41, 3) := by decide +kernel
theorem dX4_fireAndDrive_21 : decode cX4_fireAndDrive 21 = .ok (.checkcast 57, 3) := by decide +kernel
theorem dX4_fireAndDrive_24 : decode cX4_fireAndDrive 24 = .ok (.invokevirtual 145, 3) := by decide +kernel
theorem dX4_fireAndDrive_27 : decode cX4_fireAndDrive 27 = .ok (.aload_n 0, 1) := by decide +kernel
theorem dX4_fireAndDrive_28 : decode cX4_fireAndDrive 28 = .ok (.getfield 21, 3) := by decide +kernel
theorem dX4_fireAndDrive_31 : decode cX4_fireAndDrive 31 = .ok (.iload_n 1, 1) := by decide +kernel
theorem dX4_fireAndDrive_32 : decode cX4_fireAndDrive 32 = .ok (.invokevirtual 41, 3) := by decide +kernel
theorem dX4_fireAndDrive_35 : decode cX4_fireAndDrive 35 = .ok (.checkcast 57, 3) := by decide +kernel
theorem dX4_fireAndDrive_38 : decode cX4_fireAndDrive 38 = .ok (.invokevirtual 148, 3) := by decide +kernel
theorem dX4_fireAndDrive_41 : decode cX4_fireAndDrive 41 = .ok (.iinc 1 1, 3) := by decide +kernel
theorem dX4_fireAndDrive_44 : decode cX4_fireAndDrive 44 = .ok (.goto (-42), 3) := by decide +kernel
theorem dX4_fireAndDrive_47 : decode cX4_fireAndDrive 47 = .ok (.return_, 1) := by decide +kernel
theorem dX4_moveWater_0 : decode cX4_moveWater 0 = .ok (.iconst 0, 1) := by decide +kernel
theorem dX4_moveWater_1 : decode cX4_moveWater 1 = .ok (.istore_n 1, 1) := by decide +kernel
theorem dX4_moveWater_2 : decode cX4_moveWater 2 = .ok (.iload_n 1, 1) := by decide +kernel
theorem dX4_moveWater_3 : decode cX4_moveWater 3 = .ok (.aload_n 0, 1) := by decide +kernel
theorem dX4_moveWater_4 : decode cX4_moveWater 4 = .ok (.getfield 12, 3) := by decide +kernel
theorem dX4_moveWater_7 : decode cX4_moveWater 7 = .ok (.invokevirtual 28, 3) := by decide +kernel
theorem dX4_moveWater_10 : decode cX4_moveWater 10 = .ok (.if_icmp .ge 24, 3) := by decide +kernel
theorem dX4_moveWater_13 : decode cX4_moveWater 13 = .ok (.aload_n 0, 1) := by decide +kernel
theorem dX4_moveWater_14 : decode cX4_moveWater 14 = .ok (.getfield 12, 3) := by decide +kernel
theorem dX4_moveWater_17 : decode cX4_moveWater 17 = .ok (.iload_n 1, 1) := by decide +kernel
theorem dX4_moveWater_18 : decode cX4_moveWater 18 = .ok (.invokevirtual 41, 3) := by decide +kernel
theorem dX4_moveWater_21 : decode cX4_moveWater 21 = .ok (.checkcast 32, 3) := by decide +kernel
theorem dX4_moveWater_24 : decode cX4_moveWater 24 = .ok (.iconst 0, 1) := by decide +kernel
theorem dX4_moveWater_25 : decode cX4_moveWater 25 = .ok (.putfield 151, 3) := by decide +kernel
theorem dX4_moveWater_28 : decode cX4_moveWater 28 = .ok (.iinc 1 1, 3) := by decide +kernel
theorem dX4_moveWater_31 : decode cX4_moveWater 31 = .ok (.goto (-29), 3) := by decide +kernel
theorem dX4_moveWater_34 : decode cX4_moveWater 34 = .ok (.iconst 0, 1) := by decide +kernel
theorem dX4_moveWater_35 : decode cX4_moveWater 35 = .ok (.istore_n 1, 1) := by decide +kernel
theorem dX4_moveWater_36 : decode cX4_moveWater 36 = .ok (.iload_n 1, 1) := by decide +kernel
theorem dX4_moveWater_37 : decode cX4_moveWater 37 = .ok (.aload_n 0, 1) := by decide +kernel
theorem dX4_moveWater_38 : decode cX4_moveWater 38 = .ok (.getfield 21, 3) := by decide +kernel
theorem dX4_moveWater_41 : decode cX4_moveWater 41 = .ok (.invokevirtual 28, 3) := by decide +kernel
theorem dX4_moveWater_44 : decode cX4_moveWater 44 = .ok (.if_icmp .ge 36, 3) := by decide +kernel
theorem dX4_moveWater_47 : decode cX4_moveWater 47 = .ok (.aload_n 0, 1) := by decide +kernel
theorem dX4_moveWater_48 : decode cX4_moveWater 48 = .ok (.getfield 21, 3) := by decide +kernel
theorem dX4_moveWater_51 : decode cX4_moveWater 51 = .ok (.iload_n 1, 1) := by decide +kernel
theorem dX4_moveWater_52 : decode cX4_moveWater 52 = .ok (.invokevirtual 41, 3) := by decide +kernel
theorem dX4_moveWater_55 : decode cX4_moveWater 55 = .ok (.checkcast 57, 3) := by decide +kernel
theorem dX4_moveWater_58 : decode cX4_moveWater 58 = .ok (.astore_n 2, 1) := by decide +kernel
theorem dX4_moveWater_59 : decode cX4_moveWater 59 = .ok (.aload_n 2, 1) := by decide +kernel
theorem dX4_moveWater_60 : decode cX4_moveWater 60 = .ok (.iconst 0, 1) := by decide +kernel
theorem dX4_moveWater_61 : decode cX4_moveWater 61 = .ok (.putfield 154, 3) := by decide +kernel
theorem dX4_moveWater_64 : decode cX4_moveWater 64 = .ok (.aload_n 2, 1) := by decide +kernel
theorem dX4_moveWater_65 : decode cX4_moveWater 65 = .ok (.iconst 0, 1) := by decide +kernel
theorem dX4_moveWater_66 : decode cX4_moveWater 66 = .ok (.putfield 98, 3) := by decide +kernel
theorem dX4_moveWater_69 : decode cX4_moveWater 69 = .ok (.aload_n 2, 1) := by decide +kernel
theorem dX4_moveWater_70 : decode cX4_moveWater 70 = .ok (.iconst 0, 1) := by decide +kernel
theorem dX4_moveWater_71 : decode cX4_moveWater 71 = .ok (.putfield 155, 3) := by decide +kernel
theorem dX4_moveWater_74 : decode cX4_moveWater 74 = .ok (.iinc 1 1, 3) := by decide +kernel
theorem dX4_moveWater_77 : decode cX4_moveWater 77 = .ok (.goto (-41), 3) := by decide +kernel
theorem dX4_moveWater_80 : decode cX4_moveWater 80 = .ok (.iconst 0, 1) := by decide +kernel
theorem dX4_moveWater_81 : decode cX4_moveWater 81 = .ok (.istore_n 1, 1) := by decide +kernel
theorem dX4_moveWater_82 : decode cX4_moveWater 82 = .ok (.iload_n 1, 1) := by decide +kernel
theorem dX4_moveWater_83 : decode cX4_moveWater 83 = .ok (.aload_n 0, 1) := by decide +kernel
theorem dX4_moveWater_84 : decode cX4_moveWater 84 = .ok (.getfield 21, 3) := by decide +kernel
theorem dX4_moveWater_87 : decode cX4_moveWater 87 = .ok (.invokevirtual 28, 3) := by decide +kernel
theorem dX4_moveWater_90 : decode cX4_moveWater 90 = .ok (.if_icmp .ge 44, 3) := by decide +kernel
theorem dX4_moveWater_93 : decode cX4_moveWater 93 = .ok (.aload_n 0, 1) := by decide +kernel
theorem dX4_moveWater_94 : decode cX4_moveWater 94 = .ok (.invokevirtual 159, 3) := by decide +kernel
theorem dX4_moveWater_97 : decode cX4_moveWater 97 = .ok (.istore_n 2, 1) := by decide +kernel
theorem dX4_moveWater_98 : decode cX4_moveWater 98 = .ok (.aload_n 0, 1) := by decide +kernel
theorem dX4_moveWater_99 : decode cX4_moveWater 99 = .ok (.iload_n 2, 1) := by decide +kernel
theorem dX4_moveWater_100 : decode cX4_moveWater 100 = .ok (.invokevirtual 129, 3) := by decide +kernel
theorem dX4_moveWater_103 : decode cX4_moveWater 103 = .ok (.ifCond .eq 25, 3) := by decide +kernel
theorem dX4_moveWater_106 : decode cX4_moveWater 106 = .ok (.aload_n 0, 1) := by decide +kernel
theorem dX4_moveWater_107 : decode cX4_moveWater 107 = .ok (.getfield 21, 3) := by decide +kernel
theorem dX4_moveWater_110 : decode cX4_moveWater 110 = .ok (.iload_n 2, 1) := by decide +kernel
theorem dX4_moveWater_111 : decode cX4_moveWater 111 = .ok (.invokevirtual 41, 3) := by decide +kernel
theorem dX4_moveWater_114 : decode cX4_moveWater 114 = .ok (.checkcast 57, 3) := by decide +kernel
theorem dX4_moveWater_117 : decode cX4_moveWater 117 = .ok (.astore_n 3, 1) := by decide +kernel
theorem dX4_moveWater_118 : decode cX4_moveWater 118 = .ok (.aload_n 0, 1) := by decide +kernel
theorem dX4_moveWater_119 : decode cX4_moveWater 119 = .ok (.aload_n 3, 1) := by decide +kernel
theorem dX4_moveWater_120 : decode cX4_moveWater 120 = .ok (.invokevirtual 162, 3) := by decide +kernel
theorem dX4_moveWater_123 : decode cX4_moveWater 123 = .ok (.aload_n 0, 1) := by decide +kernel
theorem dX4_moveWater_124 : decode cX4_moveWater 124 = .ok (.aload_n 3, 1) := by decide +kernel
theorem dX4_moveWater_125 : decode cX4_moveWater 125 = .ok (.invokevirtual 165, 3) := by decide +kernel
theorem dX4_moveWater_128 : decode cX4_moveWater 128 = .ok (.iinc 1 1, 3) := by decide +kernel
theorem dX4_moveWater_131 : decode cX4_moveWater 131 = .ok (.goto (-49), 3) := by decide +kernel
theorem dX4_moveWater_134 : decode cX4_moveWater 134 = .ok (.iconst 0, 1) := by decide +kernel
theorem dX4_moveWater_135 : decode cX4_moveWater 135 = .ok (.istore_n 1, 1) := by decide +kernel
theorem dX4_moveWater_136 : decode cX4_moveWater 136 = .ok (.iload_n 1, 1) := by decide +kernel
theorem dX4_moveWater_137 : decode cX4_moveWater 137 = .ok (.aload_n 0, 1) := by decide +kernel
theorem dX4_moveWater_138 : decode cX4_moveWater 138 = .ok (.getfield 21, 3) := by decide +kernel
theorem dX4_moveWater_141 : decode cX4_moveWater 141 = .ok (.invokevirtual 28, 3) := by decide +kernel
theorem dX4_moveWater_144 : decode cX4_moveWater 144 = .ok (.if_icmp .ge 23, 3) := by decide +kernel
theorem dX4_moveWater_147 : decode cX4_moveWater 147 = .ok (.aload_n 0, 1) := by decide +kernel
theorem dX4_moveWater_148 : decode cX4_moveWater 148 = .ok (.getfield 21, 3) := by decide +kernel
theorem dX4_moveWater_151 : decode cX4_moveWater 151 = .ok (.iload_n 1, 1) := by decide +kernel
theorem dX4_moveWater_152 : decode cX4_moveWater 152 = .ok (.invokevirtual 41, 3) := by decide +kernel
theorem dX4_moveWater_155 : decode cX4_moveWater 155 = .ok (.checkcast 57, 3) := by decide +kernel
theorem dX4_moveWater_158 : decode cX4_moveWater 158 = .ok (.invokevirtual 168, 3) := by decide +kernel
theorem dX4_moveWater_161 : decode cX4_moveWater 161 = .ok (.iinc 1 1, 3) := by decide +kernel
theorem dX4_moveWater_164 : decode cX4_moveWater 164 = .ok (.goto (-28), 3) := by decide +kernel
theorem dX4_moveWater_167 : decode cX4_moveWater 167 = .ok (.return_, 1) := by decide +kernel
theorem dX4_nextToAsk_0 : decode cX4_nextToAsk 0 = .ok (.iconst 0, 1) := by decide +kernel
theorem dX4_nextToAsk_1 : decode cX4_nextToAsk 1 = .ok (.istore_n 1, 1) := by decide +kernel
theorem dX4_nextToAsk_2 : decode cX4_nextToAsk 2 = .ok (.iload_n 1, 1) := by decide +kernel
theorem dX4_nextToAsk_3 : decode cX4_nextToAsk 3 = .ok (.aload_n 0, 1) := by decide +kernel
theorem dX4_nextToAsk_4 : decode cX4_nextToAsk 4 = .ok (.getfield 21, 3) := by decide +kernel
theorem dX4_nextToAsk_7 : decode cX4_nextToAsk 7 = .ok (.invokevirtual 28, 3) := by decide +kernel
theorem dX4_nextToAsk_10 : decode cX4_nextToAsk 10 = .ok (.if_icmp .ge 36, 3) := by decide +kernel
theorem dX4_nextToAsk_13 : decode cX4_nextToAsk 13 = .ok (.aload_n 0, 1) := by decide +kernel
theorem dX4_nextToAsk_14 : decode cX4_nextToAsk 14 = .ok (.getfield 21, 3) := by decide +kernel
theorem dX4_nextToAsk_17 : decode cX4_nextToAsk 17 = .ok (.iload_n 1, 1) := by decide +kernel
theorem dX4_nextToAsk_18 : decode cX4_nextToAsk 18 = .ok (.invokevirtual 41, 3) := by decide +kernel
theorem dX4_nextToAsk_21 : decode cX4_nextToAsk 21 = .ok (.checkcast 57, 3) := by decide +kernel
theorem dX4_nextToAsk_24 : decode cX4_nextToAsk 24 = .ok (.getfield 155, 3) := by decide +kernel
theorem dX4_nextToAsk_27 : decode cX4_nextToAsk 27 = .ok (.ifCond .ne 13, 3) := by decide +kernel
theorem dX4_nextToAsk_30 : decode cX4_nextToAsk 30 = .ok (.aload_n 0, 1) := by decide +kernel
theorem dX4_nextToAsk_31 : decode cX4_nextToAsk 31 = .ok (.iload_n 1, 1) := by decide +kernel
theorem dX4_nextToAsk_32 : decode cX4_nextToAsk 32 = .ok (.invokevirtual 171, 3) := by decide +kernel
theorem dX4_nextToAsk_35 : decode cX4_nextToAsk 35 = .ok (.ifCond .ne 5, 3) := by decide +kernel
theorem dX4_nextToAsk_38 : decode cX4_nextToAsk 38 = .ok (.iload_n 1, 1) := by decide +kernel
theorem dX4_nextToAsk_39 : decode cX4_nextToAsk 39 = .ok (.ireturn, 1) := by decide +kernel
theorem dX4_nextToAsk_40 : decode cX4_nextToAsk 40 = .ok (.iinc 1 1, 3) := by decide +kernel
theorem dX4_nextToAsk_43 : decode cX4_nextToAsk 43 = .ok (.goto (-41), 3) := by decide +kernel
theorem dX4_nextToAsk_46 : decode cX4_nextToAsk 46 = .ok (.iconst (-1), 1) := by decide +kernel
theorem dX4_nextToAsk_47 : decode cX4_nextToAsk 47 = .ok (.ireturn, 1) := by decide +kernel
theorem dX4_waitsForWater_0 : decode cX4_waitsForWater 0 = .ok (.iconst 0, 1) := by decide +kernel
theorem dX4_waitsForWater_1 : decode cX4_waitsForWater 1 = .ok (.istore_n 2, 1) := by decide +kernel
theorem dX4_waitsForWater_2 : decode cX4_waitsForWater 2 = .ok (.iload_n 2, 1) := by decide +kernel
theorem dX4_waitsForWater_3 : decode cX4_waitsForWater 3 = .ok (.aload_n 0, 1) := by decide +kernel
theorem dX4_waitsForWater_4 : decode cX4_waitsForWater 4 = .ok (.getfield 21, 3) := by decide +kernel
theorem dX4_waitsForWater_7 : decode cX4_waitsForWater 7 = .ok (.invokevirtual 28, 3) := by decide +kernel
theorem dX4_waitsForWater_10 : decode cX4_waitsForWater 10 = .ok (.if_icmp .ge 38, 3) := by decide +kernel
theorem dX4_waitsForWater_13 : decode cX4_waitsForWater 13 = .ok (.aload_n 0, 1) := by decide +kernel
theorem dX4_waitsForWater_14 : decode cX4_waitsForWater 14 = .ok (.getfield 21, 3) := by decide +kernel
theorem dX4_waitsForWater_17 : decode cX4_waitsForWater 17 = .ok (.iload_n 2, 1) := by decide +kernel
theorem dX4_waitsForWater_18 : decode cX4_waitsForWater 18 = .ok (.invokevirtual 41, 3) := by decide +kernel
theorem dX4_waitsForWater_21 : decode cX4_waitsForWater 21 = .ok (.checkcast 57, 3) := by decide +kernel
theorem dX4_waitsForWater_24 : decode cX4_waitsForWater 24 = .ok (.astore_n 3, 1) := by decide +kernel
theorem dX4_waitsForWater_25 : decode cX4_waitsForWater 25 = .ok (.aload_n 3, 1) := by decide +kernel
theorem dX4_waitsForWater_26 : decode cX4_waitsForWater 26 = .ok (.getfield 155, 3) := by decide +kernel
theorem dX4_waitsForWater_29 : decode cX4_waitsForWater 29 = .ok (.ifCond .ne 13, 3) := by decide +kernel
theorem dX4_waitsForWater_32 : decode cX4_waitsForWater 32 = .ok (.aload_n 3, 1) := by decide +kernel
theorem dX4_waitsForWater_33 : decode cX4_waitsForWater 33 = .ok (.getfield 91, 3) := by decide +kernel
theorem dX4_waitsForWater_36 : decode cX4_waitsForWater 36 = .ok (.iload_n 1, 1) := by decide +kernel
theorem dX4_waitsForWater_37 : decode cX4_waitsForWater 37 = .ok (.if_icmp .ne 5, 3) := by decide +kernel
theorem dX4_waitsForWater_40 : decode cX4_waitsForWater 40 = .ok (.iconst 1, 1) := by decide +kernel
theorem dX4_waitsForWater_41 : decode cX4_waitsForWater 41 = .ok (.ireturn, 1) := by decide +kernel
theorem dX4_waitsForWater_42 : decode cX4_waitsForWater 42 = .ok (.iinc 2 1, 3) := by decide +kernel
theorem dX4_waitsForWater_45 : decode cX4_waitsForWater 45 = .ok (.goto (-43), 3) := by decide +kernel
theorem dX4_waitsForWater_48 : decode cX4_waitsForWater 48 = .ok (.iconst 0, 1) := by decide +kernel
theorem dX4_waitsForWater_49 : decode cX4_waitsForWater 49 = .ok (.ireturn, 1) := by decide +kernel
theorem dX4_ask_0 : decode cX4_ask 0 = .ok (.aload_n 1, 1) := by decide +kernel
theorem dX4_ask_1 : decode cX4_ask 1 = .ok (.iconst 1, 1) := by decide +kernel
theorem dX4_ask_2 : decode cX4_ask 2 = .ok (.putfield 155, 3) := by decide +kernel
theorem dX4_ask_5 : decode cX4_ask 5 = .ok (.aload_n 1, 1) := by decide +kernel
theorem dX4_ask_6 : decode cX4_ask 6 = .ok (.getfield 91, 3) := by decide +kernel
theorem dX4_ask_9 : decode cX4_ask 9 = .ok (.iconst (-1), 1) := by decide +kernel
theorem dX4_ask_10 : decode cX4_ask 10 = .ok (.if_icmp .ne 4, 3) := by decide +kernel
theorem dX4_ask_13 : decode cX4_ask 13 = .ok (.return_, 1) := by decide +kernel
theorem dX4_ask_14 : decode cX4_ask 14 = .ok (.aload_n 1, 1) := by decide +kernel
theorem dX4_ask_15 : decode cX4_ask 15 = .ok (.invokevirtual 101, 3) := by decide +kernel
theorem dX4_ask_18 : decode cX4_ask 18 = .ok (.istore_n 2, 1) := by decide +kernel
theorem dX4_ask_19 : decode cX4_ask 19 = .ok (.aload_n 1, 1) := by decide +kernel
theorem dX4_ask_20 : decode cX4_ask 20 = .ok (.getfield 154, 3) := by decide +kernel
theorem dX4_ask_23 : decode cX4_ask 23 = .ok (.istore_n 3, 1) := by decide +kernel
theorem dX4_ask_24 : decode cX4_ask 24 = .ok (.aload_n 0, 1) := by decide +kernel
theorem dX4_ask_25 : decode cX4_ask 25 = .ok (.aload_n 1, 1) := by decide +kernel
theorem dX4_ask_26 : decode cX4_ask 26 = .ok (.invokevirtual 94, 3) := by decide +kernel
theorem dX4_ask_29 : decode cX4_ask 29 = .ok (.istore 4, 2) := by decide +kernel
theorem dX4_ask_31 : decode cX4_ask 31 = .ok (.iload 4, 2) := by decide +kernel
theorem dX4_ask_33 : decode cX4_ask 33 = .ok (.ifCond .lt 36, 3) := by decide +kernel
theorem dX4_ask_36 : decode cX4_ask 36 = .ok (.iload 4, 2) := by decide +kernel
theorem dX4_ask_38 : decode cX4_ask 38 = .ok (.aload_n 0, 1) := by decide +kernel
theorem dX4_ask_39 : decode cX4_ask 39 = .ok (.getfield 18, 3) := by decide +kernel
theorem dX4_ask_42 : decode cX4_ask 42 = .ok (.invokevirtual 28, 3) := by decide +kernel
theorem dX4_ask_45 : decode cX4_ask 45 = .ok (.if_icmp .ge 24, 3) := by decide +kernel
theorem dX4_ask_48 : decode cX4_ask 48 = .ok (.iload_n 3, 1) := by decide +kernel
theorem dX4_ask_49 : decode cX4_ask 49 = .ok (.aload_n 0, 1) := by decide +kernel
theorem dX4_ask_50 : decode cX4_ask 50 = .ok (.getfield 18, 3) := by decide +kernel
theorem dX4_ask_53 : decode cX4_ask 53 = .ok (.iload 4, 2) := by decide +kernel
theorem dX4_ask_55 : decode cX4_ask 55 = .ok (.invokevirtual 41, 3) := by decide +kernel
theorem dX4_ask_58 : decode cX4_ask 58 = .ok (.checkcast 49, 3) := by decide +kernel
theorem dX4_ask_61 : decode cX4_ask 61 = .ok (.iload_n 2, 1) := by decide +kernel
theorem dX4_ask_62 : decode cX4_ask 62 = .ok (.iload_n 3, 1) := by decide +kernel
theorem dX4_ask_63 : decode cX4_ask 63 = .ok (.isub, 1) := by decide +kernel
theorem dX4_ask_64 : decode cX4_ask 64 = .ok (.invokevirtual 174, 3) := by decide +kernel
theorem dX4_ask_67 : decode cX4_ask 67 = .ok (.iadd, 1) := by decide +kernel
theorem dX4_ask_68 : decode cX4_ask 68 = .ok (.istore_n 3, 1) := by decide +kernel
theorem dX4_ask_69 : decode cX4_ask 69 = .ok (.aload_n 1, 1) := by decide +kernel
theorem dX4_ask_70 : decode cX4_ask 70 = .ok (.iload_n 3, 1) := by decide +kernel
theorem dX4_ask_71 : decode cX4_ask 71 = .ok (.iload_n 2, 1) := by decide +kernel
theorem dX4_ask_72 : decode cX4_ask 72 = .ok (.invokestatic 177, 3) := by decide +kernel
theorem dX4_ask_75 : decode cX4_ask 75 = .ok (.putfield 98, 3) := by decide +kernel
theorem dX4_ask_78 : decode cX4_ask 78 = .ok (.return_, 1) := by decide +kernel
theorem dX4_sendThroughHose_0 : decode cX4_sendThroughHose 0 = .ok (.aload_n 1, 1) := by decide +kernel
theorem dX4_sendThroughHose_1 : decode cX4_sendThroughHose 1 = .ok (.getfield 91, 3) := by decide +kernel
theorem dX4_sendThroughHose_4 : decode cX4_sendThroughHose 4 = .ok (.bipush 100, 2) := by decide +kernel
theorem dX4_sendThroughHose_6 : decode cX4_sendThroughHose 6 = .ok (.isub, 1) := by decide +kernel
theorem dX4_sendThroughHose_7 : decode cX4_sendThroughHose 7 = .ok (.istore_n 2, 1) := by decide +kernel
theorem dX4_sendThroughHose_8 : decode cX4_sendThroughHose 8 = .ok (.aload_n 0, 1) := by decide +kernel
theorem dX4_sendThroughHose_9 : decode cX4_sendThroughHose 9 = .ok (.aload_n 1, 1) := by decide +kernel
theorem dX4_sendThroughHose_10 : decode cX4_sendThroughHose 10 = .ok (.getfield 91, 3) := by decide +kernel
theorem dX4_sendThroughHose_13 : decode cX4_sendThroughHose 13 = .ok (.invokevirtual 129, 3) := by decide +kernel
theorem dX4_sendThroughHose_16 : decode cX4_sendThroughHose 16 = .ok (.ifCond .eq 48, 3) := by decide +kernel
theorem dX4_sendThroughHose_19 : decode cX4_sendThroughHose 19 = .ok (.aload_n 0, 1) := by decide +kernel
theorem dX4_sendThroughHose_20 : decode cX4_sendThroughHose 20 = .ok (.getfield 21, 3) := by decide +kernel
theorem dX4_sendThroughHose_23 : decode cX4_sendThroughHose 23 = .ok (.aload_n 1, 1) := by decide +kernel
theorem dX4_sendThroughHose_24 : decode cX4_sendThroughHose 24 = .ok (.getfield 91, 3) := by decide +kernel
theorem dX4_sendThroughHose_27 : decode cX4_sendThroughHose 27 = .ok (.invokevirtual 41, 3) := by decide +kernel
theorem dX4_sendThroughHose_30 : decode cX4_sendThroughHose 30 = .ok (.checkcast 57, 3) := by decide +kernel
theorem dX4_sendThroughHose_33 : decode cX4_sendThroughHose 33 = .ok (.astore_n 3, 1) := by decide +kernel
theorem dX4_sendThroughHose_34 : decode cX4_sendThroughHose 34 = .ok (.aload_n 3, 1) := by decide +kernel
theorem dX4_sendThroughHose_35 : decode cX4_sendThroughHose 35 = .ok (.dup, 1) := by decide +kernel
theorem dX4_sendThroughHose_36 : decode cX4_sendThroughHose 36 = .ok (.getfield 154, 3) := by decide +kernel
theorem dX4_sendThroughHose_39 : decode cX4_sendThroughHose 39 = .ok (.aload_n 1, 1) := by decide +kernel
theorem dX4_sendThroughHose_40 : decode cX4_sendThroughHose 40 = .ok (.getfield 98, 3) := by decide +kernel
theorem dX4_sendThroughHose_43 : decode cX4_sendThroughHose 43 = .ok (.aload_n 1, 1) := by decide +kernel
theorem dX4_sendThroughHose_44 : decode cX4_sendThroughHose 44 = .ok (.getfield 73, 3) := by decide +kernel
theorem dX4_sendThroughHose_47 : decode cX4_sendThroughHose 47 = .ok (.aload_n 3, 1) := by decide +kernel
theorem dX4_sendThroughHose_48 : decode cX4_sendThroughHose 48 = .ok (.getfield 73, 3) := by decide +kernel
theorem dX4_sendThroughHose_51 : decode cX4_sendThroughHose 51 = .ok (.invokestatic 183, 3) := by decide +kernel
theorem dX4_sendThroughHose_54 : decode cX4_sendThroughHose 54 = .ok (.invokestatic 186, 3) := by decide +kernel
theorem dX4_sendThroughHose_57 : decode cX4_sendThroughHose 57 = .ok (.iadd, 1) := by decide +kernel
theorem dX4_sendThroughHose_58 : decode cX4_sendThroughHose 58 = .ok (.putfield 154, 3) := by decide +kernel
theorem dX4_sendThroughHose_61 : decode cX4_sendThroughHose 61 = .ok (.goto 45, 3) := by decide +kernel
theorem dX4_sendThroughHose_64 : decode cX4_sendThroughHose 64 = .ok (.aload_n 0, 1) := by decide +kernel
theorem dX4_sendThroughHose_65 : decode cX4_sendThroughHose 65 = .ok (.iload_n 2, 1) := by decide +kernel
theorem dX4_sendThroughHose_66 : decode cX4_sendThroughHose 66 = .ok (.invokevirtual 189, 3) := by decide +kernel
theorem dX4_sendThroughHose_69 : decode cX4_sendThroughHose 69 = .ok (.ifCond .eq 37, 3) := by decide +kernel
theorem dX4_sendThroughHose_72 : decode cX4_sendThroughHose 72 = .ok (.aload_n 0, 1) := by decide +kernel
theorem dX4_sendThroughHose_73 : decode cX4_sendThroughHose 73 = .ok (.getfield 12, 3) := by decide +kernel
theorem dX4_sendThroughHose_76 : decode cX4_sendThroughHose 76 = .ok (.iload_n 2, 1) := by decide +kernel
theorem dX4_sendThroughHose_77 : decode cX4_sendThroughHose 77 = .ok (.invokevirtual 41, 3) := by decide +kernel
theorem dX4_sendThroughHose_80 : decode cX4_sendThroughHose 80 = .ok (.checkcast 32, 3) := by decide +kernel
theorem dX4_sendThroughHose_83 : decode cX4_sendThroughHose 83 = .ok (.astore_n 3, 1) := by decide +kernel
theorem dX4_sendThroughHose_84 : decode cX4_sendThroughHose 84 = .ok (.aload_n 3, 1) := by decide +kernel
theorem dX4_sendThroughHose_85 : decode cX4_sendThroughHose 85 = .ok (.aload_n 1, 1) := by decide +kernel
theorem dX4_sendThroughHose_86 : decode cX4_sendThroughHose 86 = .ok (.getfield 98, 3) := by decide +kernel
theorem dX4_sendThroughHose_89 : decode cX4_sendThroughHose 89 = .ok (.aload_n 1, 1) := by decide +kernel
theorem dX4_sendThroughHose_90 : decode cX4_sendThroughHose 90 = .ok (.getfield 73, 3) := by decide +kernel
theorem dX4_sendThroughHose_93 : decode cX4_sendThroughHose 93 = .ok (.aload_n 3, 1) := by decide +kernel
theorem dX4_sendThroughHose_94 : decode cX4_sendThroughHose 94 = .ok (.getfield 116, 3) := by decide +kernel
theorem dX4_sendThroughHose_97 : decode cX4_sendThroughHose 97 = .ok (.invokestatic 183, 3) := by decide +kernel
theorem dX4_sendThroughHose_100 : decode cX4_sendThroughHose 100 = .ok (.invokestatic 186, 3) := by decide +kernel
theorem dX4_sendThroughHose_103 : decode cX4_sendThroughHose 103 = .ok (.invokevirtual 192, 3) := by decide +kernel
theorem dX4_sendThroughHose_106 : decode cX4_sendThroughHose 106 = .ok (.return_, 1) := by decide +kernel
theorem dX4_arriving_0 : decode cX4_arriving 0 = .ok (.iload_n 0, 1) := by decide +kernel
theorem dX4_arriving_1 : decode cX4_arriving 1 = .ok (.iload_n 0, 1) := by decide +kernel
theorem dX4_arriving_2 : decode cX4_arriving 2 = .ok (.iload_n 1, 1) := by decide +kernel
theorem dX4_arriving_3 : decode cX4_arriving 3 = .ok (.iconst 2, 1) := by decide +kernel
theorem dX4_arriving_4 : decode cX4_arriving 4 = .ok (.idiv, 1) := by decide +kernel
theorem dX4_arriving_5 : decode cX4_arriving 5 = .ok (.imul, 1) := by decide +kernel
theorem dX4_arriving_6 : decode cX4_arriving 6 = .ok (.bipush 10, 2) := by decide +kernel
theorem dX4_arriving_8 : decode cX4_arriving 8 = .ok (.idiv, 1) := by decide +kernel
theorem dX4_arriving_9 : decode cX4_arriving 9 = .ok (.isub, 1) := by decide +kernel
theorem dX4_arriving_10 : decode cX4_arriving 10 = .ok (.ireturn, 1) := by decide +kernel
theorem dX4_catchFire_0 : decode cX4_catchFire 0 = .ok (.iconst 0, 1) := by decide +kernel
theorem dX4_catchFire_1 : decode cX4_catchFire 1 = .ok (.istore_n 1, 1) := by decide +kernel
theorem dX4_catchFire_2 : decode cX4_catchFire 2 = .ok (.iconst 0, 1) := by decide +kernel
theorem dX4_catchFire_3 : decode cX4_catchFire 3 = .ok (.istore_n 2, 1) := by decide +kernel
theorem dX4_catchFire_4 : decode cX4_catchFire 4 = .ok (.iload_n 2, 1) := by decide +kernel
theorem dX4_catchFire_5 : decode cX4_catchFire 5 = .ok (.aload_n 0, 1) := by decide +kernel
theorem dX4_catchFire_6 : decode cX4_catchFire 6 = .ok (.getfield 12, 3) := by decide +kernel
theorem dX4_catchFire_9 : decode cX4_catchFire 9 = .ok (.invokevirtual 28, 3) := by decide +kernel
theorem dX4_catchFire_12 : decode cX4_catchFire 12 = .ok (.if_icmp .ge 54, 3) := by decide +kernel
theorem dX4_catchFire_15 : decode cX4_catchFire 15 = .ok (.aload_n 0, 1) := by decide +kernel
theorem dX4_catchFire_16 : decode cX4_catchFire 16 = .ok (.getfield 12, 3) := by decide +kernel
theorem dX4_catchFire_19 : decode cX4_catchFire 19 = .ok (.iload_n 2, 1) := by decide +kernel
theorem dX4_catchFire_20 : decode cX4_catchFire 20 = .ok (.invokevirtual 41, 3) := by decide +kernel
theorem dX4_catchFire_23 : decode cX4_catchFire 23 = .ok (.checkcast 32, 3) := by decide +kernel
theorem dX4_catchFire_26 : decode cX4_catchFire 26 = .ok (.astore_n 3, 1) := by decide +kernel
theorem dX4_catchFire_27 : decode cX4_catchFire 27 = .ok (.aload_n 3, 1) := by decide +kernel
theorem dX4_catchFire_28 : decode cX4_catchFire 28 = .ok (.getfield 104, 3) := by decide +kernel
theorem dX4_catchFire_31 : decode cX4_catchFire 31 = .ok (.ifCond .ne 29, 3) := by decide +kernel
theorem dX4_catchFire_34 : decode cX4_catchFire 34 = .ok (.aload_n 0, 1) := by decide +kernel
theorem dX4_catchFire_35 : decode cX4_catchFire 35 = .ok (.aload_n 3, 1) := by decide +kernel
theorem dX4_catchFire_36 : decode cX4_catchFire 36 = .ok (.getfield 116, 3) := by decide +kernel
theorem dX4_catchFire_39 : decode cX4_catchFire 39 = .ok (.invokevirtual 196, 3) := by decide +kernel
theorem dX4_catchFire_42 : decode cX4_catchFire 42 = .ok (.aload_n 3, 1) := by decide +kernel
theorem dX4_catchFire_43 : decode cX4_catchFire 43 = .ok (.getfield 151, 3) := by decide +kernel
theorem dX4_catchFire_46 : decode cX4_catchFire 46 = .ok (.isub, 1) := by decide +kernel
theorem dX4_catchFire_47 : decode cX4_catchFire 47 = .ok (.bipush 40, 2) := by decide +kernel
theorem dX4_catchFire_49 : decode cX4_catchFire 49 = .ok (.if_icmp .lt 11, 3) := by decide +kernel
theorem dX4_catchFire_52 : decode cX4_catchFire 52 = .ok (.aload_n 3, 1) := by decide +kernel
theorem dX4_catchFire_53 : decode cX4_catchFire 53 = .ok (.iconst 1, 1) := by decide +kernel
theorem dX4_catchFire_54 : decode cX4_catchFire 54 = .ok (.putfield 104, 3) := by decide +kernel
theorem dX4_catchFire_57 : decode cX4_catchFire 57 = .ok (.iinc 1 1, 3) := by decide +kernel
theorem dX4_catchFire_60 : decode cX4_catchFire 60 = .ok (.iinc 2 1, 3) := by decide +kernel
theorem dX4_catchFire_63 : decode cX4_catchFire 63 = .ok (.goto (-59), 3) := by decide +kernel
theorem dX4_catchFire_66 : decode cX4_catchFire 66 = .ok (.iconst 0, 1) := by decide +kernel
theorem dX4_catchFire_67 : decode cX4_catchFire 67 = .ok (.istore_n 2, 1) := by decide +kernel
theorem dX4_catchFire_68 : decode cX4_catchFire 68 = .ok (.iload_n 2, 1) := by decide +kernel
theorem dX4_catchFire_69 : decode cX4_catchFire 69 = .ok (.aload_n 0, 1) := by decide +kernel
theorem dX4_catchFire_70 : decode cX4_catchFire 70 = .ok (.getfield 12, 3) := by decide +kernel
theorem dX4_catchFire_73 : decode cX4_catchFire 73 = .ok (.invokevirtual 28, 3) := by decide +kernel
theorem dX4_catchFire_76 : decode cX4_catchFire 76 = .ok (.if_icmp .ge 41, 3) := by decide +kernel
theorem dX4_catchFire_79 : decode cX4_catchFire 79 = .ok (.aload_n 0, 1) := by decide +kernel
theorem dX4_catchFire_80 : decode cX4_catchFire 80 = .ok (.getfield 12, 3) := by decide +kernel
theorem dX4_catchFire_83 : decode cX4_catchFire 83 = .ok (.iload_n 2, 1) := by decide +kernel
theorem dX4_catchFire_84 : decode cX4_catchFire 84 = .ok (.invokevirtual 41, 3) := by decide +kernel
theorem dX4_catchFire_87 : decode cX4_catchFire 87 = .ok (.checkcast 32, 3) := by decide +kernel
theorem dX4_catchFire_90 : decode cX4_catchFire 90 = .ok (.astore_n 3, 1) := by decide +kernel
theorem dX4_catchFire_91 : decode cX4_catchFire 91 = .ok (.aload_n 3, 1) := by decide +kernel
theorem dX4_catchFire_92 : decode cX4_catchFire 92 = .ok (.getfield 104, 3) := by decide +kernel
theorem dX4_catchFire_95 : decode cX4_catchFire 95 = .ok (.iconst 1, 1) := by decide +kernel
theorem dX4_catchFire_96 : decode cX4_catchFire 96 = .ok (.if_icmp .ne 15, 3) := by decide +kernel
theorem dX4_catchFire_99 : decode cX4_catchFire 99 = .ok (.aload_n 3, 1) := by decide +kernel
theorem dX4_catchFire_100 : decode cX4_catchFire 100 = .ok (.getfield 121, 3) := by decide +kernel
theorem dX4_catchFire_103 : decode cX4_catchFire 103 = .ok (.ifCond .ne 8, 3) := by decide +kernel
theorem dX4_catchFire_106 : decode cX4_catchFire 106 = .ok (.aload_n 3, 1) := by decide +kernel
theorem dX4_catchFire_107 : decode cX4_catchFire 107 = .ok (.iconst 5, 1) := by decide +kernel
theorem dX4_catchFire_108 : decode cX4_catchFire 108 = .ok (.putfield 121, 3) := by decide +kernel
theorem dX4_catchFire_111 : decode cX4_catchFire 111 = .ok (.iinc 2 1, 3) := by decide +kernel
theorem dX4_catchFire_114 : decode cX4_catchFire 114 = .ok (.goto (-46), 3) := by decide +kernel
theorem dX4_catchFire_117 : decode cX4_catchFire 117 = .ok (.iload_n 1, 1) := by decide +kernel
theorem dX4_catchFire_118 : decode cX4_catchFire 118 = .ok (.ireturn, 1) := by decide +kernel
theorem dX5_init_0 : decode cX5_init 0 = .ok (.aload_n 0, 1) := by decide +kernel
theorem dX5_init_1 : decode cX5_init 1 = .ok (.invokespecial 3, 3) := by decide +kernel
theorem dX5_init_4 : decode cX5_init 4 = .ok (.aload_n 0, 1) := by decide +kernel
theorem dX5_init_5 : decode cX5_init 5 = .ok (.new 9, 3) := by decide +kernel
theorem dX5_init_8 : decode cX5_init 8 = .ok (.dup, 1) := by decide +kernel
theorem dX5_init_9 : decode cX5_init 9 = .ok (.invokespecial 11, 3) := by decide +kernel
theorem dX5_init_12 : decode cX5_init 12 = .ok (.putfield 12, 3) := by decide +kernel
theorem dX5_init_15 : decode cX5_init 15 = .ok (.aload_n 0, 1) := by decide +kernel
theorem dX5_init_16 : decode cX5_init 16 = .ok (.new 16, 3) := by decide +kernel
theorem dX5_init_19 : decode cX5_init 19 = .ok (.dup, 1) := by decide +kernel
theorem dX5_init_20 : decode cX5_init 20 = .ok (.invokespecial 18, 3) := by decide +kernel
theorem dX5_init_23 : decode cX5_init 23 = .ok (.putfield 19, 3) := by decide +kernel
theorem dX5_init_26 : decode cX5_init 26 = .ok (.aload_n 0, 1) := by decide +kernel
theorem dX5_init_27 : decode cX5_init 27 = .ok (.new 16, 3) := by decide +kernel
theorem dX5_init_30 : decode cX5_init 30 = .ok (.dup, 1) := by decide +kernel
theorem dX5_init_31 : decode cX5_init 31 = .ok (.invokespecial 18, 3) := by decide +kernel
theorem dX5_init_34 : decode cX5_init 34 = .ok (.putfield 23, 3) := by decide +kernel
theorem dX5_init_37 : decode cX5_init 37 = .ok (.return_, 1) := by decide +kernel
theorem dX5_build_0 : decode cX5_build 0 = .ok (.iload_n 1, 1) := by decide +kernel
theorem dX5_build_1 : decode cX5_build 1 = .ok (.iload_n 2, 1) := by decide +kernel
theorem dX5_build_2 : decode cX5_build 2 = .ok (.invokestatic 26, 3) := by decide +kernel
theorem dX5_build_5 : decode cX5_build 5 = .ok (.iload_n 3, 1) := by decide +kernel
theorem dX5_build_6 : decode cX5_build 6 = .ok (.iconst 1, 1) := by decide +kernel
theorem dX5_build_7 : decode cX5_build 7 = .ok (.bipush 9, 2) := by decide +kernel
theorem dX5_build_9 : decode cX5_build 9 = .ok (.invokestatic 30, 3) := by decide +kernel
theorem dX5_build_12 : decode cX5_build 12 = .ok (.iload 4, 2) := by decide +kernel
theorem dX5_build_14 : decode cX5_build 14 = .ok (.iconst 1, 1) := by decide +kernel
theorem dX5_build_15 : decode cX5_build 15 = .ok (.bipush 60, 2) := by decide +kernel
theorem dX5_build_17 : decode cX5_build 17 = .ok (.invokestatic 30, 3) := by decide +kernel
theorem dX5_build_20 : decode cX5_build 20 = .ok (.iload_n 1, 1) := by decide +kernel
theorem dX5_build_21 : decode cX5_build 21 = .ok (.iload_n 2, 1) := by decide +kernel
theorem dX5_build_22 : decode cX5_build 22 = .ok (.invokestatic 34, 3) := by decide +kernel
theorem dX5_build_25 : decode cX5_build 25 = .ok (.istore 5, 2) := by decide +kernel
theorem dX5_build_27 : decode cX5_build 27 = .ok (.aload_n 0, 1) := by decide +kernel
theorem dX5_build_28 : decode cX5_build 28 = .ok (.iload 5, 2) := by decide +kernel
theorem dX5_build_30 : decode cX5_build 30 = .ok (.invokevirtual 38, 3) := by decide +kernel
theorem dX5_build_33 : decode cX5_build 33 = .ok (.ifCond .eq 22, 3) := by decide +kernel
theorem dX5_build_36 : decode cX5_build 36 = .ok (.aload_n 0, 1) := by decide +kernel
theorem dX5_build_37 : decode cX5_build 37 = .ok (.getfield 19, 3) := by decide +kernel
theorem dX5_build_40 : decode cX5_build 40 = .ok (.getfield 42, 3) := by decide +kernel
theorem dX5_build_43 : decode cX5_build 43 = .ok (.invokevirtual 46, 3) := by decide +kernel
theorem dX5_build_46 : decode cX5_build 46 = .ok (.bipush 30, 2) := by decide +kernel
theorem dX5_build_48 : decode cX5_build 48 = .ok (.if_icmp .ge 7, 3) := by decide +kernel
theorem dX5_build_51 : decode cX5_build 51 = .ok (.iconst 1, 1) := by decide +kernel
theorem dX5_build_52 : decode cX5_build 52 = .ok (.goto 4, 3) := by decide +kernel
theorem dX5_build_55 : decode cX5_build 55 = .ok (.iconst 0, 1) := by decide +kernel
theorem dX5_build_56 : decode cX5_build 56 = .ok (.invokestatic 52, 3) := by decide +kernel
theorem dX5_build_59 : decode cX5_build 59 = .ok (.aload_n 0, 1) := by decide +kernel
theorem dX5_build_60 : decode cX5_build 60 = .ok (.getfield 19, 3) := by decide +kernel
theorem dX5_build_63 : decode cX5_build 63 = .ok (.getfield 42, 3) := by decide +kernel
theorem dX5_build_66 : decode cX5_build 66 = .ok (.invokevirtual 46, 3) := by decide +kernel
theorem dX5_build_69 : decode cX5_build 69 = .ok (.istore 6, 2) := by decide +kernel
theorem dX5_build_71 : decode cX5_build 71 = .ok (.aload_n 0, 1) := by decide +kernel
theorem dX5_build_72 : decode cX5_build 72 = .ok (.getfield 19, 3) := by decide +kernel
theorem dX5_build_75 : decode cX5_build 75 = .ok (.getfield 42, 3) := by decide +kernel
theorem dX5_build_78 : decode cX5_build 78 = .ok (.new 56, 3) := by decide +kernel
theorem dX5_build_81 : decode cX5_build 81 = .ok (.dup, 1) := by decide +kernel
theorem dX5_build_82 : decode cX5_build 82 = .ok (.iload 5, 2) := by decide +kernel
theorem dX5_build_84 : decode cX5_build 84 = .ok (.iload_n 3, 1) := by decide +kernel
theorem dX5_build_85 : decode cX5_build 85 = .ok (.iload 4, 2) := by decide +kernel
theorem dX5_build_87 : decode cX5_build 87 = .ok (.invokespecial 58, 3) := by decide +kernel
theorem dX5_build_90 : decode cX5_build 90 = .ok (.invokevirtual 60, 3) := by decide +kernel
theorem dX5_build_93 : decode cX5_build 93 = .ok (.pop, 1) := by decide +kernel
theorem dX5_build_94 : decode cX5_build 94 = .ok (.aload_n 0, 1) := by decide +kernel
theorem dX5_build_95 : decode cX5_build 95 = .ok (.getfield 12, 3) := by decide +kernel
theorem dX5_build_98 : decode cX5_build 98 = .ok (.iload 5, 2) := by decide +kernel
theorem dX5_build_100 : decode cX5_build 100 = .ok (.iconst 1, 1) := by decide +kernel
theorem dX5_build_101 : decode cX5_build 101 = .ok (.iload 6, 2) := by decide +kernel
theorem dX5_build_103 : decode cX5_build 103 = .ok (.invokevirtual 64, 3) := by decide +kernel
theorem dX5_build_106 : decode cX5_build 106 = .ok (.iload 6, 2) := by decide +kernel
theorem dX5_build_108 : decode cX5_build 108 = .ok (.ireturn, 1) := by decide +kernel
theorem dX5_dig_0 : decode cX5_dig 0 = .ok (.iload_n 1, 1) := by decide +kernel
theorem dX5_dig_1 : decode cX5_dig 1 = .ok (.iload_n 2, 1) := by decide +kernel
theorem dX5_dig_2 : decode cX5_dig 2 = .ok (.invokestatic 26, 3) := by decide +kernel
theorem dX5_dig_5 : decode cX5_dig 5 = .ok (.iload_n 3, 1) := by decide +kernel
theorem dX5_dig_6 : decode cX5_dig 6 = .ok (.iconst 0, 1) := by decide +kernel
theorem dX5_dig_7 : decode cX5_dig 7 = .ok (.sipush 5000, 3) := by decide +kernel
theorem dX5_dig_10 : decode cX5_dig 10 = .ok (.invokestatic 30, 3) := by decide +kernel
theorem dX5_dig_13 : decode cX5_dig 13 = .ok (.iload_n 1, 1) := by decide +kernel
theorem dX5_dig_14 : decode cX5_dig 14 = .ok (.iload_n 2, 1) := by decide +kernel
theorem dX5_dig_15 : decode cX5_dig 15 = .ok (.invokestatic 34, 3) := by decide +kernel
theorem dX5_dig_18 : decode cX5_dig 18 = .ok (.istore 4, 2) := by decide +kernel
theorem dX5_dig_20 : decode cX5_dig 20 = .ok (.aload_n 0, 1) := by decide +kernel
theorem dX5_dig_21 : decode cX5_dig 21 = .ok (.iload 4, 2) := by decide +kernel
theorem dX5_dig_23 : decode cX5_dig 23 = .ok (.invokevirtual 38, 3) := by decide +kernel
theorem dX5_dig_26 : decode cX5_dig 26 = .ok (.ifCond .eq 22, 3) := by decide +kernel
theorem dX5_dig_29 : decode cX5_dig 29 = .ok (.aload_n 0, 1) := by decide +kernel
theorem dX5_dig_30 : decode cX5_dig 30 = .ok (.getfield 19, 3) := by decide +kernel
theorem dX5_dig_33 : decode cX5_dig 33 = .ok (.getfield 67, 3) := by decide +kernel
theorem dX5_dig_36 : decode cX5_dig 36 = .ok (.invokevirtual 46, 3) := by decide +kernel
theorem dX5_dig_39 : decode cX5_dig 39 = .ok (.bipush 6, 2) := by decide +kernel
theorem dX5_dig_41 : decode cX5_dig 41 = .ok (.if_icmp .ge 7, 3) := by decide +kernel
theorem dX5_dig_44 : decode cX5_dig 44 = .ok (.iconst 1, 1) := by decide +kernel
theorem dX5_dig_45 : decode cX5_dig 45 = .ok (.goto 4, 3) := by decide +kernel
theorem dX5_dig_48 : decode cX5_dig 48 = .ok (.iconst 0, 1) := by decide +kernel
theorem dX5_dig_49 : decode cX5_dig 49 = .ok (.invokestatic 52, 3) := by decide +kernel
theorem dX5_dig_52 : decode cX5_dig 52 = .ok (.aload_n 0, 1) := by decide +kernel
theorem dX5_dig_53 : decode cX5_dig 53 = .ok (.getfield 19, 3) := by decide +kernel
theorem dX5_dig_56 : decode cX5_dig 56 = .ok (.getfield 67, 3) := by decide +kernel
theorem dX5_dig_59 : decode cX5_dig 59 = .ok (.invokevirtual 46, 3) := by decide +kernel
theorem dX5_dig_62 : decode cX5_dig 62 = .ok (.istore 5, 2) := by decide +kernel
theorem dX5_dig_64 : decode cX5_dig 64 = .ok (.aload_n 0, 1) := by decide +kernel
theorem dX5_dig_65 : decode cX5_dig 65 = .ok (.getfield 19, 3) := by decide +kernel
theorem dX5_dig_68 : decode cX5_dig 68 = .ok (.getfield 67, 3) := by decide +kernel
theorem dX5_dig_71 : decode cX5_dig 71 = .ok (.new 70, 3) := by decide +kernel
theorem dX5_dig_74 : decode cX5_dig 74 = .ok (.dup, 1) := by decide +kernel
theorem dX5_dig_75 : decode cX5_dig 75 = .ok (.iload 4, 2) := by decide +kernel
theorem dX5_dig_77 : decode cX5_dig 77 = .ok (.iload_n 3, 1) := by decide +kernel
theorem dX5_dig_78 : decode cX5_dig 78 = .ok (.invokespecial 72, 3) := by decide +kernel
theorem dX5_dig_81 : decode cX5_dig 81 = .ok (.invokevirtual 60, 3) := by decide +kernel
theorem dX5_dig_84 : decode cX5_dig 84 = .ok (.pop, 1) := by decide +kernel
theorem dX5_dig_85 : decode cX5_dig 85 = .ok (.aload_n 0, 1) := by decide +kernel
theorem dX5_dig_86 : decode cX5_dig 86 = .ok (.getfield 12, 3) := by decide +kernel
theorem dX5_dig_89 : decode cX5_dig 89 = .ok (.iload 4, 2) := by decide +kernel
theorem dX5_dig_91 : decode cX5_dig 91 = .ok (.iconst 2, 1) := by decide +kernel
theorem dX5_dig_92 : decode cX5_dig 92 = .ok (.iload 5, 2) := by decide +kernel
theorem dX5_dig_94 : decode cX5_dig 94 = .ok (.invokevirtual 64, 3) := by decide +kernel
theorem dX5_dig_97 : decode cX5_dig 97 = .ok (.iload 5, 2) := by decide +kernel
theorem dX5_dig_99 : decode cX5_dig 99 = .ok (.ireturn, 1) := by decide +kernel
theorem dX5_light_0 : decode cX5_light 0 = .ok (.aload_n 0, 1) := by decide +kernel
theorem dX5_light_1 : decode cX5_light 1 = .ok (.iload_n 1, 1) := by decide +kernel
theorem dX5_light_2 : decode cX5_light 2 = .ok (.invokevirtual 74, 3) := by decide +kernel
theorem dX5_light_5 : decode cX5_light 5 = .ok (.iload_n 2, 1) := by decide +kernel
theorem dX5_light_6 : decode cX5_light 6 = .ok (.iconst 1, 1) := by decide +kernel
theorem dX5_light_7 : decode cX5_light 7 = .ok (.bipush 99, 2) := by decide +kernel
theorem dX5_light_9 : decode cX5_light 9 = .ok (.invokestatic 30, 3) := by decide +kernel
theorem dX5_light_12 : decode cX5_light 12 = .ok (.aload_n 0, 1) := by decide +kernel
theorem dX5_light_13 : decode cX5_light 13 = .ok (.getfield 19, 3) := by decide +kernel
theorem dX5_light_16 : decode cX5_light 16 = .ok (.getfield 42, 3) := by decide +kernel
theorem dX5_light_19 : decode cX5_light 19 = .ok (.iload_n 1, 1) := by decide +kernel
theorem dX5_light_20 : decode cX5_light 20 = .ok (.invokevirtual 78, 3) := by decide +kernel
theorem dX5_light_23 : decode cX5_light 23 = .ok (.checkcast 56, 3) := by decide +kernel
theorem dX5_light_26 : decode cX5_light 26 = .ok (.astore_n 3, 1) := by decide +kernel
theorem dX5_light_27 : decode cX5_light 27 = .ok (.aload_n 3, 1) := by decide +kernel
theorem dX5_light_28 : decode cX5_light 28 = .ok (.getfield 82, 3) := by decide +kernel
theorem dX5_light_31 : decode cX5_light 31 = .ok (.ifCond .ne 7, 3) := by decide +kernel
theorem dX5_light_34 : decode cX5_light 34 = .ok (.iconst 1, 1) := by decide +kernel
theorem dX5_light_35 : decode cX5_light 35 = .ok (.goto 4, 3) := by decide +kernel
theorem dX5_light_38 : decode cX5_light 38 = .ok (.iconst 0, 1) := by decide +kernel
theorem dX5_light_39 : decode cX5_light 39 = .ok (.invokestatic 52, 3) := by decide +kernel
theorem dX5_light_42 : decode cX5_light 42 = .ok (.aload_n 3, 1) := by decide +kernel
theorem dX5_light_43 : decode cX5_light 43 = .ok (.iload_n 2, 1) := by decide +kernel
theorem dX5_light_44 : decode cX5_light 44 = .ok (.invokevirtual 86, 3) := by decide +kernel
theorem dX5_light_47 : decode cX5_light 47 = .ok (.aload_n 0, 1) := by decide +kernel
theorem dX5_light_48 : decode cX5_light 48 = .ok (.getfield 19, 3) := by decide +kernel
theorem dX5_light_51 : decode cX5_light 51 = .ok (.iconst 1, 1) := by decide +kernel
theorem dX5_light_52 : decode cX5_light 52 = .ok (.invokevirtual 89, 3) := by decide +kernel
theorem dX5_light_55 : decode cX5_light 55 = .ok (.ireturn, 1) := by decide +kernel
theorem dX5_house_0 : decode cX5_house 0 = .ok (.aload_n 0, 1) := by decide +kernel
theorem dX5_house_1 : decode cX5_house 1 = .ok (.iload_n 1, 1) := by decide +kernel
theorem dX5_house_2 : decode cX5_house 2 = .ok (.invokevirtual 74, 3) := by decide +kernel
theorem dX5_house_5 : decode cX5_house 5 = .ok (.iload_n 2, 1) := by decide +kernel
theorem dX5_house_6 : decode cX5_house 6 = .ok (.bipush 6, 2) := by decide +kernel
theorem dX5_house_8 : decode cX5_house 8 = .ok (.invokestatic 93, 3) := by decide +kernel
theorem dX5_house_11 : decode cX5_house 11 = .ok (.aload_n 0, 1) := by decide +kernel
theorem dX5_house_12 : decode cX5_house 12 = .ok (.getfield 19, 3) := by decide +kernel
theorem dX5_house_15 : decode cX5_house 15 = .ok (.getfield 42, 3) := by decide +kernel
theorem dX5_house_18 : decode cX5_house 18 = .ok (.iload_n 1, 1) := by decide +kernel
theorem dX5_house_19 : decode cX5_house 19 = .ok (.invokevirtual 78, 3) := by decide +kernel
theorem dX5_house_22 : decode cX5_house 22 = .ok (.checkcast 56, 3) := by decide +kernel
theorem dX5_house_25 : decode cX5_house 25 = .ok (.iload_n 2, 1) := by decide +kernel
theorem dX5_house_26 : decode cX5_house 26 = .ok (.invokevirtual 108, 3) := by decide +kernel
theorem dX5_house_29 : decode cX5_house 29 = .ok (.ireturn, 1) := by decide +kernel
theorem dX5_addEngine_0 : decode cX5_addEngine 0 = .ok (.iload_n 1, 1) := by decide +kernel
theorem dX5_addEngine_1 : decode cX5_addEngine 1 = .ok (.iload_n 2, 1) := by decide +kernel
theorem dX5_addEngine_2 : decode cX5_addEngine 2 = .ok (.invokestatic 26, 3) := by decide +kernel
theorem dX5_addEngine_5 : decode cX5_addEngine 5 = .ok (.iload_n 3, 1) := by decide +kernel
theorem dX5_addEngine_6 : decode cX5_addEngine 6 = .ok (.iconst 1, 1) := by decide +kernel
theorem dX5_addEngine_7 : decode cX5_addEngine 7 = .ok (.iconst 4, 1) := by decide +kernel
theorem dX5_addEngine_8 : decode cX5_addEngine 8 = .ok (.invokestatic 30, 3) := by decide +kernel
theorem dX5_addEngine_11 : decode cX5_addEngine 11 = .ok (.iload 4, 2) := by decide +kernel
theorem dX5_addEngine_13 : decode cX5_addEngine 13 = .ok (.iconst 1, 1) := by decide +kernel
theorem dX5_addEngine_14 : decode cX5_addEngine 14 = .ok (.bipush 20, 2) := by decide +kernel
theorem dX5_addEngine_16 : decode cX5_addEngine 16 = .ok (.invokestatic 30, 3) := by decide +kernel
theorem dX5_addEngine_19 : decode cX5_addEngine 19 = .ok (.iload_n 1, 1) := by decide +kernel
theorem dX5_addEngine_20 : decode cX5_addEngine 20 = .ok (.iload_n 2, 1) := by decide +kernel
theorem dX5_addEngine_21 : decode cX5_addEngine 21 = .ok (.invokestatic 34, 3) := by decide +kernel
theorem dX5_addEngine_24 : decode cX5_addEngine 24 = .ok (.istore 5, 2) := by decide +kernel
theorem dX5_addEngine_26 : decode cX5_addEngine 26 = .ok (.aload_n 0, 1) := by decide +kernel
theorem dX5_addEngine_27 : decode cX5_addEngine 27 = .ok (.getfield 12, 3) := by decide +kernel
theorem dX5_addEngine_30 : decode cX5_addEngine 30 = .ok (.iload 5, 2) := by decide +kernel
theorem dX5_addEngine_32 : decode cX5_addEngine 32 = .ok (.invokevirtual 111, 3) := by decide +kernel
theorem dX5_addEngine_35 : decode cX5_addEngine 35 = .ok (.ifCond .eq 22, 3) := by decide +kernel
theorem dX5_addEngine_38 : decode cX5_addEngine 38 = .ok (.aload_n 0, 1) := by decide +kernel
theorem dX5_addEngine_39 : decode cX5_addEngine 39 = .ok (.getfield 19, 3) := by decide +kernel
theorem dX5_addEngine_42 : decode cX5_addEngine 42 = .ok (.getfield 114, 3) := by decide +kernel
theorem dX5_addEngine_45 : decode cX5_addEngine 45 = .ok (.invokevirtual 46, 3) := by decide +kernel
theorem dX5_addEngine_48 : decode cX5_addEngine 48 = .ok (.bipush 6, 2) := by decide +kernel
theorem dX5_addEngine_50 : decode cX5_addEngine 50 = .ok (.if_icmp .ge 7, 3) := by decide +kernel
theorem dX5_addEngine_53 : decode cX5_addEngine 53 = .ok (.iconst 1, 1) := by decide +kernel
theorem dX5_addEngine_54 : decode cX5_addEngine 54 = .ok (.goto 4, 3) := by decide +kernel
theorem dX5_addEngine_57 : decode cX5_addEngine 57 = .ok (.iconst 0, 1) := by decide +kernel
theorem dX5_addEngine_58 : decode cX5_addEngine 58 = .ok (.invokestatic 52, 3) := by decide +kernel
theorem dX5_addEngine_61 : decode cX5_addEngine 61 = .ok (.aload_n 0, 1) := by decide +kernel
theorem dX5_addEngine_62 : decode cX5_addEngine 62 = .ok (.getfield 19, 3) := by decide +kernel
theorem dX5_addEngine_65 : decode cX5_addEngine 65 = .ok (.getfield 114, 3) := by decide +kernel
theorem dX5_addEngine_68 : decode cX5_addEngine 68 = .ok (.invokevirtual 46, 3) := by decide +kernel
theorem dX5_addEngine_71 : decode cX5_addEngine 71 = .ok (.istore 6, 2) := by decide +kernel
theorem dX5_addEngine_73 : decode cX5_addEngine 73 = .ok (.aload_n 0, 1) := by decide +kernel
theorem dX5_addEngine_74 : decode cX5_addEngine 74 = .ok (.getfield 19, 3) := by decide +kernel
theorem dX5_addEngine_77 : decode cX5_addEngine 77 = .ok (.getfield 114, 3) := by decide +kernel
theorem dX5_addEngine_80 : decode cX5_addEngine 80 = .ok (.new 117, 3) := by decide +kernel
theorem dX5_addEngine_83 : decode cX5_addEngine 83 = .ok (.dup, 1) := by decide +kernel
theorem dX5_addEngine_84 : decode cX5_addEngine 84 = .ok (.iload 5, 2) := by decide +kernel
theorem dX5_addEngine_86 : decode cX5_addEngine 86 = .ok (.iload_n 3, 1) := by decide +kernel
theorem dX5_addEngine_87 : decode cX5_addEngine 87 = .ok (.iload 4, 2) := by decide +kernel
theorem dX5_addEngine_89 : decode cX5_addEngine 89 = .ok (.invokespecial 119, 3) := by decide +kernel
theorem dX5_addEngine_92 : decode cX5_addEngine 92 = .ok (.invokevirtual 60, 3) := by decide +kernel
theorem dX5_addEngine_95 : decode cX5_addEngine 95 = .ok (.pop, 1) := by decide +kernel
theorem dX5_addEngine_96 : decode cX5_addEngine 96 = .ok (.iload 6, 2) := by decide +kernel
theorem dX5_addEngine_98 : decode cX5_addEngine 98 = .ok (.ireturn, 1) := by decide +kernel
theorem dX5_stoke_0 : decode cX5_stoke 0 = .ok (.aload_n 0, 1) := by decide +kernel
theorem dX5_stoke_1 : decode cX5_stoke 1 = .ok (.iload_n 1, 1) := by decide +kernel
theorem dX5_stoke_2 : decode cX5_stoke 2 = .ok (.invokevirtual 120, 3) := by decide +kernel
theorem dX5_stoke_5 : decode cX5_stoke 5 = .ok (.iload_n 2, 1) := by decide +kernel
theorem dX5_stoke_6 : decode cX5_stoke 6 = .ok (.iconst 1, 1) := by decide +kernel
theorem dX5_stoke_7 : decode cX5_stoke 7 = .ok (.bipush 100, 2) := by decide +kernel
theorem dX5_stoke_9 : decode cX5_stoke 9 = .ok (.invokestatic 30, 3) := by decide +kernel
theorem dX5_stoke_12 : decode cX5_stoke 12 = .ok (.aload_n 0, 1) := by decide +kernel
theorem dX5_stoke_13 : decode cX5_stoke 13 = .ok (.getfield 19, 3) := by decide +kernel
theorem dX5_stoke_16 : decode cX5_stoke 16 = .ok (.getfield 114, 3) := by decide +kernel
theorem dX5_stoke_19 : decode cX5_stoke 19 = .ok (.iload_n 1, 1) := by decide +kernel
theorem dX5_stoke_20 : decode cX5_stoke 20 = .ok (.invokevirtual 78, 3) := by decide +kernel
theorem dX5_stoke_23 : decode cX5_stoke 23 = .ok (.checkcast 117, 3) := by decide +kernel
theorem dX5_stoke_26 : decode cX5_stoke 26 = .ok (.astore_n 3, 1) := by decide +kernel
theorem dX5_stoke_27 : decode cX5_stoke 27 = .ok (.aload_n 3, 1) := by decide +kernel
theorem dX5_stoke_28 : decode cX5_stoke 28 = .ok (.getfield 123, 3) := by decide +kernel
theorem dX5_stoke_31 : decode cX5_stoke 31 = .ok (.iload_n 2, 1) := by decide +kernel
theorem dX5_stoke_32 : decode cX5_stoke 32 = .ok (.iadd, 1) := by decide +kernel
theorem dX5_stoke_33 : decode cX5_stoke 33 = .ok (.sipush 200, 3) := by decide +kernel
theorem dX5_stoke_36 : decode cX5_stoke 36 = .ok (.if_icmp .gt 7, 3) := by decide +kernel
theorem dX5_stoke_39 : decode cX5_stoke 39 = .ok (.iconst 1, 1) := by decide +kernel
theorem dX5_stoke_40 : decode cX5_stoke 40 = .ok (.goto 4, 3) := by decide +kernel
theorem dX5_stoke_43 : decode cX5_stoke 43 = .ok (.iconst 0, 1) := by decide +kernel
theorem dX5_stoke_44 : decode cX5_stoke 44 = .ok (.invokestatic 52, 3) := by decide +kernel
theorem dX5_stoke_47 : decode cX5_stoke 47 = .ok (.aload_n 3, 1) := by decide +kernel
theorem dX5_stoke_48 : decode cX5_stoke 48 = .ok (.dup, 1) := by decide +kernel
theorem dX5_stoke_49 : decode cX5_stoke 49 = .ok (.getfield 123, 3) := by decide +kernel
theorem dX5_stoke_52 : decode cX5_stoke 52 = .ok (.iload_n 2, 1) := by decide +kernel
theorem dX5_stoke_53 : decode cX5_stoke 53 = .ok (.iadd, 1) := by decide +kernel
theorem dX5_stoke_54 : decode cX5_stoke 54 = .ok (.putfield 123, 3) := by decide +kernel
theorem dX5_stoke_57 : decode cX5_stoke 57 = .ok (.aload_n 3, 1) := by decide +kernel
theorem dX5_stoke_58 : decode cX5_stoke 58 = .ok (.getfield 123, 3) := by decide +kernel
theorem dX5_stoke_61 : decode cX5_stoke 61 = .ok (.ireturn, 1) := by decide +kernel
theorem dX5_drive_0 : decode cX5_drive 0 = .ok (.aload_n 0, 1) := by decide +kernel
theorem dX5_drive_1 : decode cX5_drive 1 = .ok (.iload_n 1, 1) := by decide +kernel
theorem dX5_drive_2 : decode cX5_drive 2 = .ok (.invokevirtual 120, 3) := by decide +kernel
theorem dX5_drive_5 : decode cX5_drive 5 = .ok (.iload_n 2, 1) := by decide +kernel
theorem dX5_drive_6 : decode cX5_drive 6 = .ok (.iload_n 3, 1) := by decide +kernel
theorem dX5_drive_7 : decode cX5_drive 7 = .ok (.invokestatic 26, 3) := by decide +kernel
theorem dX5_drive_10 : decode cX5_drive 10 = .ok (.aload_n 0, 1) := by decide +kernel
theorem dX5_drive_11 : decode cX5_drive 11 = .ok (.getfield 19, 3) := by decide +kernel
theorem dX5_drive_14 : decode cX5_drive 14 = .ok (.getfield 114, 3) := by decide +kernel
theorem dX5_drive_17 : decode cX5_drive 17 = .ok (.iload_n 1, 1) := by decide +kernel
theorem dX5_drive_18 : decode cX5_drive 18 = .ok (.invokevirtual 78, 3) := by decide +kernel
theorem dX5_drive_21 : decode cX5_drive 21 = .ok (.checkcast 117, 3) := by decide +kernel
theorem dX5_drive_24 : decode cX5_drive 24 = .ok (.astore 4, 2) := by decide +kernel
theorem dX5_drive_26 : decode cX5_drive 26 = .ok (.iload_n 2, 1) := by decide +kernel
theorem dX5_drive_27 : decode cX5_drive 27 = .ok (.iload_n 3, 1) := by decide +kernel
theorem dX5_drive_28 : decode cX5_drive 28 = .ok (.invokestatic 34, 3) := by decide +kernel
theorem dX5_drive_31 : decode cX5_drive 31 = .ok (.istore 5, 2) := by decide +kernel
theorem dX5_drive_33 : decode cX5_drive 33 = .ok (.aload 4, 2) := by decide +kernel
