theorem dX5_drive_35 : decode cX5_drive 35 = .ok (.invokevirtual 126, 3) := by decide +kernel
theorem dX5_drive_38 : decode cX5_drive 38 = .ok (.ifCond .eq 17, 3) := by decide +kernel
theorem dX5_drive_41 : decode cX5_drive 41 = .ok (.aload 4, 2) := by decide +kernel
theorem dX5_drive_43 : decode cX5_drive 43 = .ok (.getfield 130, 3) := by decide +kernel
theorem dX5_drive_46 : decode cX5_drive 46 = .ok (.iload 5, 2) := by decide +kernel
theorem dX5_drive_48 : decode cX5_drive 48 = .ok (.if_icmp .eq 7, 3) := by decide +kernel
theorem dX5_drive_51 : decode cX5_drive 51 = .ok (.iconst 1, 1) := by decide +kernel
theorem dX5_drive_52 : decode cX5_drive 52 = .ok (.goto 4, 3) := by decide +kernel
theorem dX5_drive_55 : decode cX5_drive 55 = .ok (.iconst 0, 1) := by decide +kernel
theorem dX5_drive_56 : decode cX5_drive 56 = .ok (.invokestatic 52, 3) := by decide +kernel
theorem dX5_drive_59 : decode cX5_drive 59 = .ok (.aload_n 0, 1) := by decide +kernel
theorem dX5_drive_60 : decode cX5_drive 60 = .ok (.getfield 12, 3) := by decide +kernel
theorem dX5_drive_63 : decode cX5_drive 63 = .ok (.aload 4, 2) := by decide +kernel
theorem dX5_drive_65 : decode cX5_drive 65 = .ok (.getfield 130, 3) := by decide +kernel
theorem dX5_drive_68 : decode cX5_drive 68 = .ok (.iload 5, 2) := by decide +kernel
theorem dX5_drive_70 : decode cX5_drive 70 = .ok (.invokevirtual 133, 3) := by decide +kernel
theorem dX5_drive_73 : decode cX5_drive 73 = .ok (.istore 6, 2) := by decide +kernel
theorem dX5_drive_75 : decode cX5_drive 75 = .ok (.iload 6, 2) := by decide +kernel
theorem dX5_drive_77 : decode cX5_drive 77 = .ok (.iconst (-1), 1) := by decide +kernel
theorem dX5_drive_78 : decode cX5_drive 78 = .ok (.if_icmp .eq 7, 3) := by decide +kernel
theorem dX5_drive_81 : decode cX5_drive 81 = .ok (.iconst 1, 1) := by decide +kernel
theorem dX5_drive_82 : decode cX5_drive 82 = .ok (.goto 4, 3) := by decide +kernel
theorem dX5_drive_85 : decode cX5_drive 85 = .ok (.iconst 0, 1) := by decide +kernel
theorem dX5_drive_86 : decode cX5_drive 86 = .ok (.invokestatic 52, 3) := by decide +kernel
theorem dX5_drive_89 : decode cX5_drive 89 = .ok (.aload_n 0, 1) := by decide +kernel
theorem dX5_drive_90 : decode cX5_drive 90 = .ok (.getfield 19, 3) := by decide +kernel
theorem dX5_drive_93 : decode cX5_drive 93 = .ok (.iload_n 1, 1) := by decide +kernel
theorem dX5_drive_94 : decode cX5_drive 94 = .ok (.invokevirtual 136, 3) := by decide +kernel
theorem dX5_drive_97 : decode cX5_drive 97 = .ok (.aload 4, 2) := by decide +kernel
theorem dX5_drive_99 : decode cX5_drive 99 = .ok (.iload 5, 2) := by decide +kernel
theorem dX5_drive_101 : decode cX5_drive 101 = .ok (.iload 6, 2) := by decide +kernel
theorem dX5_drive_103 : decode cX5_drive 103 = .ok (.invokevirtual 139, 3) := by decide +kernel
theorem dX5_drive_106 : decode cX5_drive 106 = .ok (.aload 4, 2) := by decide +kernel
theorem dX5_drive_108 : decode cX5_drive 108 = .ok (.getfield 142, 3) := by decide +kernel
theorem dX5_drive_111 : decode cX5_drive 111 = .ok (.ireturn, 1) := by decide +kernel
theorem dX5_relay_0 : decode cX5_relay 0 = .ok (.aload_n 0, 1) := by decide +kernel
theorem dX5_relay_1 : decode cX5_relay 1 = .ok (.iload_n 1, 1) := by decide +kernel
theorem dX5_relay_2 : decode cX5_relay 2 = .ok (.invokevirtual 120, 3) := by decide +kernel
theorem dX5_relay_5 : decode cX5_relay 5 = .ok (.aload_n 0, 1) := by decide +kernel
theorem dX5_relay_6 : decode cX5_relay 6 = .ok (.iload_n 2, 1) := by decide +kernel
theorem dX5_relay_7 : decode cX5_relay 7 = .ok (.invokevirtual 120, 3) := by decide +kernel
theorem dX5_relay_10 : decode cX5_relay 10 = .ok (.aload_n 0, 1) := by decide +kernel
theorem dX5_relay_11 : decode cX5_relay 11 = .ok (.getfield 19, 3) := by decide +kernel
theorem dX5_relay_14 : decode cX5_relay 14 = .ok (.getfield 114, 3) := by decide +kernel
theorem dX5_relay_17 : decode cX5_relay 17 = .ok (.iload_n 1, 1) := by decide +kernel
theorem dX5_relay_18 : decode cX5_relay 18 = .ok (.invokevirtual 78, 3) := by decide +kernel
theorem dX5_relay_21 : decode cX5_relay 21 = .ok (.checkcast 117, 3) := by decide +kernel
theorem dX5_relay_24 : decode cX5_relay 24 = .ok (.astore_n 3, 1) := by decide +kernel
theorem dX5_relay_25 : decode cX5_relay 25 = .ok (.aload_n 0, 1) := by decide +kernel
theorem dX5_relay_26 : decode cX5_relay 26 = .ok (.getfield 19, 3) := by decide +kernel
theorem dX5_relay_29 : decode cX5_relay 29 = .ok (.getfield 114, 3) := by decide +kernel
theorem dX5_relay_32 : decode cX5_relay 32 = .ok (.iload_n 2, 1) := by decide +kernel
theorem dX5_relay_33 : decode cX5_relay 33 = .ok (.invokevirtual 78, 3) := by decide +kernel
theorem dX5_relay_36 : decode cX5_relay 36 = .ok (.checkcast 117, 3) := by decide +kernel
theorem dX5_relay_39 : decode cX5_relay 39 = .ok (.astore 4, 2) := by decide +kernel
theorem dX5_relay_41 : decode cX5_relay 41 = .ok (.aload_n 3, 1) := by decide +kernel
theorem dX5_relay_42 : decode cX5_relay 42 = .ok (.getfield 130, 3) := by decide +kernel
theorem dX5_relay_45 : decode cX5_relay 45 = .ok (.aload 4, 2) := by decide +kernel
theorem dX5_relay_47 : decode cX5_relay 47 = .ok (.getfield 130, 3) := by decide +kernel
theorem dX5_relay_50 : decode cX5_relay 50 = .ok (.invokestatic 145, 3) := by decide +kernel
theorem dX5_relay_53 : decode cX5_relay 53 = .ok (.istore 5, 2) := by decide +kernel
theorem dX5_relay_55 : decode cX5_relay 55 = .ok (.aload_n 3, 1) := by decide +kernel
theorem dX5_relay_56 : decode cX5_relay 56 = .ok (.invokevirtual 126, 3) := by decide +kernel
theorem dX5_relay_59 : decode cX5_relay 59 = .ok (.ifCond .eq 22, 3) := by decide +kernel
theorem dX5_relay_62 : decode cX5_relay 62 = .ok (.aload 4, 2) := by decide +kernel
theorem dX5_relay_64 : decode cX5_relay 64 = .ok (.invokevirtual 126, 3) := by decide +kernel
theorem dX5_relay_67 : decode cX5_relay 67 = .ok (.ifCond .eq 14, 3) := by decide +kernel
theorem dX5_relay_70 : decode cX5_relay 70 = .ok (.iload 5, 2) := by decide +kernel
theorem dX5_relay_72 : decode cX5_relay 72 = .ok (.bipush 6, 2) := by decide +kernel
theorem dX5_relay_74 : decode cX5_relay 74 = .ok (.if_icmp .gt 7, 3) := by decide +kernel
theorem dX5_relay_77 : decode cX5_relay 77 = .ok (.iconst 1, 1) := by decide +kernel
theorem dX5_relay_78 : decode cX5_relay 78 = .ok (.goto 4, 3) := by decide +kernel
theorem dX5_relay_81 : decode cX5_relay 81 = .ok (.iconst 0, 1) := by decide +kernel
theorem dX5_relay_82 : decode cX5_relay 82 = .ok (.invokestatic 52, 3) := by decide +kernel
theorem dX5_relay_85 : decode cX5_relay 85 = .ok (.aload_n 0, 1) := by decide +kernel
theorem dX5_relay_86 : decode cX5_relay 86 = .ok (.getfield 19, 3) := by decide +kernel
theorem dX5_relay_89 : decode cX5_relay 89 = .ok (.iload_n 2, 1) := by decide +kernel
theorem dX5_relay_90 : decode cX5_relay 90 = .ok (.iload_n 1, 1) := by decide +kernel
theorem dX5_relay_91 : decode cX5_relay 91 = .ok (.invokevirtual 148, 3) := by decide +kernel
theorem dX5_relay_94 : decode cX5_relay 94 = .ok (.ifCond .ne 7, 3) := by decide +kernel
theorem dX5_relay_97 : decode cX5_relay 97 = .ok (.iconst 1, 1) := by decide +kernel
theorem dX5_relay_98 : decode cX5_relay 98 = .ok (.goto 4, 3) := by decide +kernel
theorem dX5_relay_101 : decode cX5_relay 101 = .ok (.iconst 0, 1) := by decide +kernel
theorem dX5_relay_102 : decode cX5_relay 102 = .ok (.invokestatic 52, 3) := by decide +kernel
theorem dX5_relay_105 : decode cX5_relay 105 = .ok (.aload_n 3, 1) := by decide +kernel
theorem dX5_relay_106 : decode cX5_relay 106 = .ok (.iload_n 2, 1) := by decide +kernel
theorem dX5_relay_107 : decode cX5_relay 107 = .ok (.putfield 152, 3) := by decide +kernel
theorem dX5_relay_110 : decode cX5_relay 110 = .ok (.iload 5, 2) := by decide +kernel
theorem dX5_relay_112 : decode cX5_relay 112 = .ok (.ireturn, 1) := by decide +kernel
theorem dX5_aim_0 : decode cX5_aim 0 = .ok (.aload_n 0, 1) := by decide +kernel
theorem dX5_aim_1 : decode cX5_aim 1 = .ok (.iload_n 1, 1) := by decide +kernel
theorem dX5_aim_2 : decode cX5_aim 2 = .ok (.invokevirtual 120, 3) := by decide +kernel
theorem dX5_aim_5 : decode cX5_aim 5 = .ok (.aload_n 0, 1) := by decide +kernel
theorem dX5_aim_6 : decode cX5_aim 6 = .ok (.iload_n 2, 1) := by decide +kernel
theorem dX5_aim_7 : decode cX5_aim 7 = .ok (.invokevirtual 74, 3) := by decide +kernel
theorem dX5_aim_10 : decode cX5_aim 10 = .ok (.aload_n 0, 1) := by decide +kernel
theorem dX5_aim_11 : decode cX5_aim 11 = .ok (.getfield 19, 3) := by decide +kernel
theorem dX5_aim_14 : decode cX5_aim 14 = .ok (.getfield 114, 3) := by decide +kernel
theorem dX5_aim_17 : decode cX5_aim 17 = .ok (.iload_n 1, 1) := by decide +kernel
theorem dX5_aim_18 : decode cX5_aim 18 = .ok (.invokevirtual 78, 3) := by decide +kernel
theorem dX5_aim_21 : decode cX5_aim 21 = .ok (.checkcast 117, 3) := by decide +kernel
theorem dX5_aim_24 : decode cX5_aim 24 = .ok (.astore_n 3, 1) := by decide +kernel
theorem dX5_aim_25 : decode cX5_aim 25 = .ok (.aload_n 3, 1) := by decide +kernel
theorem dX5_aim_26 : decode cX5_aim 26 = .ok (.getfield 130, 3) := by decide +kernel
theorem dX5_aim_29 : decode cX5_aim 29 = .ok (.aload_n 0, 1) := by decide +kernel
theorem dX5_aim_30 : decode cX5_aim 30 = .ok (.getfield 19, 3) := by decide +kernel
theorem dX5_aim_33 : decode cX5_aim 33 = .ok (.getfield 42, 3) := by decide +kernel
theorem dX5_aim_36 : decode cX5_aim 36 = .ok (.iload_n 2, 1) := by decide +kernel
theorem dX5_aim_37 : decode cX5_aim 37 = .ok (.invokevirtual 78, 3) := by decide +kernel
theorem dX5_aim_40 : decode cX5_aim 40 = .ok (.checkcast 56, 3) := by decide +kernel
theorem dX5_aim_43 : decode cX5_aim 43 = .ok (.getfield 155, 3) := by decide +kernel
theorem dX5_aim_46 : decode cX5_aim 46 = .ok (.invokestatic 145, 3) := by decide +kernel
theorem dX5_aim_49 : decode cX5_aim 49 = .ok (.istore 4, 2) := by decide +kernel
theorem dX5_aim_51 : decode cX5_aim 51 = .ok (.aload_n 3, 1) := by decide +kernel
theorem dX5_aim_52 : decode cX5_aim 52 = .ok (.invokevirtual 126, 3) := by decide +kernel
theorem dX5_aim_55 : decode cX5_aim 55 = .ok (.ifCond .eq 14, 3) := by decide +kernel
theorem dX5_aim_58 : decode cX5_aim 58 = .ok (.iload 4, 2) := by decide +kernel
theorem dX5_aim_60 : decode cX5_aim 60 = .ok (.bipush 6, 2) := by decide +kernel
theorem dX5_aim_62 : decode cX5_aim 62 = .ok (.if_icmp .gt 7, 3) := by decide +kernel
theorem dX5_aim_65 : decode cX5_aim 65 = .ok (.iconst 1, 1) := by decide +kernel
theorem dX5_aim_66 : decode cX5_aim 66 = .ok (.goto 4, 3) := by decide +kernel
theorem dX5_aim_69 : decode cX5_aim 69 = .ok (.iconst 0, 1) := by decide +kernel
theorem dX5_aim_70 : decode cX5_aim 70 = .ok (.invokestatic 52, 3) := by decide +kernel
theorem dX5_aim_73 : decode cX5_aim 73 = .ok (.aload_n 3, 1) := by decide +kernel
theorem dX5_aim_74 : decode cX5_aim 74 = .ok (.bipush 100, 2) := by decide +kernel
theorem dX5_aim_76 : decode cX5_aim 76 = .ok (.iload_n 2, 1) := by decide +kernel
theorem dX5_aim_77 : decode cX5_aim 77 = .ok (.iadd, 1) := by decide +kernel
theorem dX5_aim_78 : decode cX5_aim 78 = .ok (.putfield 152, 3) := by decide +kernel
theorem dX5_aim_81 : decode cX5_aim 81 = .ok (.iload 4, 2) := by decide +kernel
theorem dX5_aim_83 : decode cX5_aim 83 = .ok (.ireturn, 1) := by decide +kernel
theorem dX5_takeUp_0 : decode cX5_takeUp 0 = .ok (.aload_n 0, 1) := by decide +kernel
theorem dX5_takeUp_1 : decode cX5_takeUp 1 = .ok (.iload_n 1, 1) := by decide +kernel
theorem dX5_takeUp_2 : decode cX5_takeUp 2 = .ok (.invokevirtual 120, 3) := by decide +kernel
theorem dX5_takeUp_5 : decode cX5_takeUp 5 = .ok (.aload_n 0, 1) := by decide +kernel
theorem dX5_takeUp_6 : decode cX5_takeUp 6 = .ok (.getfield 19, 3) := by decide +kernel
theorem dX5_takeUp_9 : decode cX5_takeUp 9 = .ok (.getfield 114, 3) := by decide +kernel
theorem dX5_takeUp_12 : decode cX5_takeUp 12 = .ok (.iload_n 1, 1) := by decide +kernel
theorem dX5_takeUp_13 : decode cX5_takeUp 13 = .ok (.invokevirtual 78, 3) := by decide +kernel
theorem dX5_takeUp_16 : decode cX5_takeUp 16 = .ok (.checkcast 117, 3) := by decide +kernel
theorem dX5_takeUp_19 : decode cX5_takeUp 19 = .ok (.astore_n 2, 1) := by decide +kernel
theorem dX5_takeUp_20 : decode cX5_takeUp 20 = .ok (.aload_n 2, 1) := by decide +kernel
theorem dX5_takeUp_21 : decode cX5_takeUp 21 = .ok (.getfield 152, 3) := by decide +kernel
theorem dX5_takeUp_24 : decode cX5_takeUp 24 = .ok (.iconst (-1), 1) := by decide +kernel
theorem dX5_takeUp_25 : decode cX5_takeUp 25 = .ok (.if_icmp .eq 7, 3) := by decide +kernel
theorem dX5_takeUp_28 : decode cX5_takeUp 28 = .ok (.iconst 1, 1) := by decide +kernel
theorem dX5_takeUp_29 : decode cX5_takeUp 29 = .ok (.goto 4, 3) := by decide +kernel
theorem dX5_takeUp_32 : decode cX5_takeUp 32 = .ok (.iconst 0, 1) := by decide +kernel
theorem dX5_takeUp_33 : decode cX5_takeUp 33 = .ok (.istore_n 3, 1) := by decide +kernel
theorem dX5_takeUp_34 : decode cX5_takeUp 34 = .ok (.aload_n 2, 1) := by decide +kernel
theorem dX5_takeUp_35 : decode cX5_takeUp 35 = .ok (.iconst (-1), 1) := by decide +kernel
theorem dX5_takeUp_36 : decode cX5_takeUp 36 = .ok (.putfield 152, 3) := by decide +kernel
theorem dX5_takeUp_39 : decode cX5_takeUp 39 = .ok (.iload_n 3, 1) := by decide +kernel
theorem dX5_takeUp_40 : decode cX5_takeUp 40 = .ok (.ireturn, 1) := by decide +kernel
theorem dX5_engine_0 : decode cX5_engine 0 = .ok (.aload_n 0, 1) := by decide +kernel
theorem dX5_engine_1 : decode cX5_engine 1 = .ok (.iload_n 1, 1) := by decide +kernel
theorem dX5_engine_2 : decode cX5_engine 2 = .ok (.invokevirtual 120, 3) := by decide +kernel
theorem dX5_engine_5 : decode cX5_engine 5 = .ok (.iload_n 2, 1) := by decide +kernel
theorem dX5_engine_6 : decode cX5_engine 6 = .ok (.bipush 9, 2) := by decide +kernel
theorem dX5_engine_8 : decode cX5_engine 8 = .ok (.invokestatic 93, 3) := by decide +kernel
theorem dX5_engine_11 : decode cX5_engine 11 = .ok (.aload_n 0, 1) := by decide +kernel
theorem dX5_engine_12 : decode cX5_engine 12 = .ok (.getfield 19, 3) := by decide +kernel
theorem dX5_engine_15 : decode cX5_engine 15 = .ok (.aload_n 0, 1) := by decide +kernel
theorem dX5_engine_16 : decode cX5_engine 16 = .ok (.getfield 19, 3) := by decide +kernel
theorem dX5_engine_19 : decode cX5_engine 19 = .ok (.getfield 114, 3) := by decide +kernel
theorem dX5_engine_22 : decode cX5_engine 22 = .ok (.iload_n 1, 1) := by decide +kernel
theorem dX5_engine_23 : decode cX5_engine 23 = .ok (.invokevirtual 78, 3) := by decide +kernel
theorem dX5_engine_26 : decode cX5_engine 26 = .ok (.checkcast 117, 3) := by decide +kernel
theorem dX5_engine_29 : decode cX5_engine 29 = .ok (.iload_n 2, 1) := by decide +kernel
theorem dX5_engine_30 : decode cX5_engine 30 = .ok (.invokevirtual 156, 3) := by decide +kernel
theorem dX5_engine_33 : decode cX5_engine 33 = .ok (.ireturn, 1) := by decide +kernel
theorem dX5_pond_0 : decode cX5_pond 0 = .ok (.iload_n 1, 1) := by decide +kernel
theorem dX5_pond_1 : decode cX5_pond 1 = .ok (.ifCond .lt 17, 3) := by decide +kernel
theorem dX5_pond_4 : decode cX5_pond 4 = .ok (.iload_n 1, 1) := by decide +kernel
theorem dX5_pond_5 : decode cX5_pond 5 = .ok (.aload_n 0, 1) := by decide +kernel
theorem dX5_pond_6 : decode cX5_pond 6 = .ok (.getfield 19, 3) := by decide +kernel
theorem dX5_pond_9 : decode cX5_pond 9 = .ok (.getfield 67, 3) := by decide +kernel
theorem dX5_pond_12 : decode cX5_pond 12 = .ok (.invokevirtual 46, 3) := by decide +kernel
theorem dX5_pond_15 : decode cX5_pond 15 = .ok (.if_icmp .lt 13, 3) := by decide +kernel
theorem dX5_pond_18 : decode cX5_pond 18 = .ok (.new 160, 3) := by decide +kernel
theorem dX5_pond_21 : decode cX5_pond 21 = .ok (.dup, 1) := by decide +kernel
theorem dX5_pond_22 : decode cX5_pond 22 = .ok (.ldc 162, 2) := by decide +kernel
theorem dX5_pond_24 : decode cX5_pond 24 = .ok (.invokespecial 164, 3) := by decide +kernel
theorem dX5_pond_27 : decode cX5_pond 27 = .ok (.athrow, 1) := by decide +kernel
theorem dX5_pond_28 : decode cX5_pond 28 = .ok (.aload_n 0, 1) := by decide +kernel
theorem dX5_pond_29 : decode cX5_pond 29 = .ok (.getfield 19, 3) := by decide +kernel
theorem dX5_pond_32 : decode cX5_pond 32 = .ok (.getfield 67, 3) := by decide +kernel
theorem dX5_pond_35 : decode cX5_pond 35 = .ok (.iload_n 1, 1) := by decide +kernel
theorem dX5_pond_36 : decode cX5_pond 36 = .ok (.invokevirtual 78, 3) := by decide +kernel
theorem dX5_pond_39 : decode cX5_pond 39 = .ok (.checkcast 70, 3) := by decide +kernel
theorem dX5_pond_42 : decode cX5_pond 42 = .ok (.getfield 167, 3) := by decide +kernel
theorem dX5_pond_45 : decode cX5_pond 45 = .ok (.ireturn, 1) := by decide +kernel
theorem dX5_pass_0 : decode cX5_pass 0 = .ok (.iload_n 1, 1) := by decide +kernel
theorem dX5_pass_1 : decode cX5_pass 1 = .ok (.iconst 1, 1) := by decide +kernel
theorem dX5_pass_2 : decode cX5_pass 2 = .ok (.bipush 100, 2) := by decide +kernel
theorem dX5_pass_4 : decode cX5_pass 4 = .ok (.invokestatic 30, 3) := by decide +kernel
theorem dX5_pass_7 : decode cX5_pass 7 = .ok (.aload_n 0, 1) := by decide +kernel
theorem dX5_pass_8 : decode cX5_pass 8 = .ok (.getfield 19, 3) := by decide +kernel
theorem dX5_pass_11 : decode cX5_pass 11 = .ok (.iload_n 1, 1) := by decide +kernel
theorem dX5_pass_12 : decode cX5_pass 12 = .ok (.invokevirtual 170, 3) := by decide +kernel
theorem dX5_pass_15 : decode cX5_pass 15 = .ok (.ireturn, 1) := by decide +kernel
theorem dX5_count_0 : decode cX5_count 0 = .ok (.iload_n 1, 1) := by decide +kernel
theorem dX5_count_1 : decode cX5_count 1 = .ok (.bipush 9, 2) := by decide +kernel
theorem dX5_count_3 : decode cX5_count 3 = .ok (.invokestatic 93, 3) := by decide +kernel
theorem dX5_count_6 : decode cX5_count 6 = .ok (.aload_n 0, 1) := by decide +kernel
theorem dX5_count_7 : decode cX5_count 7 = .ok (.getfield 19, 3) := by decide +kernel
theorem dX5_count_10 : decode cX5_count 10 = .ok (.iload_n 1, 1) := by decide +kernel
theorem dX5_count_11 : decode cX5_count 11 = .ok (.invokevirtual 173, 3) := by decide +kernel
theorem dX5_count_14 : decode cX5_count 14 = .ok (.ireturn, 1) := by decide +kernel
theorem dX5_foresee_0 : decode cX5_foresee 0 = .ok (.iload_n 1, 1) := by decide +kernel
theorem dX5_foresee_1 : decode cX5_foresee 1 = .ok (.iconst 1, 1) := by decide +kernel
theorem dX5_foresee_2 : decode cX5_foresee 2 = .ok (.bipush 100, 2) := by decide +kernel
theorem dX5_foresee_4 : decode cX5_foresee 4 = .ok (.invokestatic 30, 3) := by decide +kernel
theorem dX5_foresee_7 : decode cX5_foresee 7 = .ok (.iload_n 2, 1) := by decide +kernel
theorem dX5_foresee_8 : decode cX5_foresee 8 = .ok (.iconst 2, 1) := by decide +kernel
theorem dX5_foresee_9 : decode cX5_foresee 9 = .ok (.invokestatic 93, 3) := by decide +kernel
theorem dX5_foresee_12 : decode cX5_foresee 12 = .ok (.aload_n 0, 1) := by decide +kernel
theorem dX5_foresee_13 : decode cX5_foresee 13 = .ok (.getfield 23, 3) := by decide +kernel
theorem dX5_foresee_16 : decode cX5_foresee 16 = .ok (.aload_n 0, 1) := by decide +kernel
theorem dX5_foresee_17 : decode cX5_foresee 17 = .ok (.getfield 19, 3) := by decide +kernel
theorem dX5_foresee_20 : decode cX5_foresee 20 = .ok (.invokevirtual 174, 3) := by decide +kernel
theorem dX5_foresee_23 : decode cX5_foresee 23 = .ok (.aload_n 0, 1) := by decide +kernel
theorem dX5_foresee_24 : decode cX5_foresee 24 = .ok (.getfield 23, 3) := by decide +kernel
theorem dX5_foresee_27 : decode cX5_foresee 27 = .ok (.iload_n 1, 1) := by decide +kernel
theorem dX5_foresee_28 : decode cX5_foresee 28 = .ok (.invokevirtual 170, 3) := by decide +kernel
theorem dX5_foresee_31 : decode cX5_foresee 31 = .ok (.pop, 1) := by decide +kernel
theorem dX5_foresee_32 : decode cX5_foresee 32 = .ok (.iload_n 2, 1) := by decide +kernel
theorem dX5_foresee_33 : decode cX5_foresee 33 = .ok (.lookupswitch 45 #[(0, 27), (1, 36)], 27) := by decide +kernel
theorem dX5_foresee_60 : decode cX5_foresee 60 = .ok (.aload_n 0, 1) := by decide +kernel
theorem dX5_foresee_61 : decode cX5_foresee 61 = .ok (.getfield 23, 3) := by decide +kernel
theorem dX5_foresee_64 : decode cX5_foresee 64 = .ok (.iconst 2, 1) := by decide +kernel
theorem dX5_foresee_65 : decode cX5_foresee 65 = .ok (.invokevirtual 173, 3) := by decide +kernel
theorem dX5_foresee_68 : decode cX5_foresee 68 = .ok (.ireturn, 1) := by decide +kernel
theorem dX5_foresee_69 : decode cX5_foresee 69 = .ok (.aload_n 0, 1) := by decide +kernel
theorem dX5_foresee_70 : decode cX5_foresee 70 = .ok (.getfield 23, 3) := by decide +kernel
theorem dX5_foresee_73 : decode cX5_foresee 73 = .ok (.iconst 4, 1) := by decide +kernel
theorem dX5_foresee_74 : decode cX5_foresee 74 = .ok (.invokevirtual 173, 3) := by decide +kernel
theorem dX5_foresee_77 : decode cX5_foresee 77 = .ok (.ireturn, 1) := by decide +kernel
theorem dX5_foresee_78 : decode cX5_foresee 78 = .ok (.aload_n 0, 1) := by decide +kernel
theorem dX5_foresee_79 : decode cX5_foresee 79 = .ok (.getfield 23, 3) := by decide +kernel
theorem dX5_foresee_82 : decode cX5_foresee 82 = .ok (.bipush 8, 2) := by decide +kernel
theorem dX5_foresee_84 : decode cX5_foresee 84 = .ok (.invokevirtual 173, 3) := by decide +kernel
theorem dX5_foresee_87 : decode cX5_foresee 87 = .ok (.ireturn, 1) := by decide +kernel
theorem dX5_lasts_0 : decode cX5_lasts 0 = .ok (.aload_n 0, 1) := by decide +kernel
theorem dX5_lasts_1 : decode cX5_lasts 1 = .ok (.getfield 23, 3) := by decide +kernel
theorem dX5_lasts_4 : decode cX5_lasts 4 = .ok (.aload_n 0, 1) := by decide +kernel
theorem dX5_lasts_5 : decode cX5_lasts 5 = .ok (.getfield 19, 3) := by decide +kernel
theorem dX5_lasts_8 : decode cX5_lasts 8 = .ok (.invokevirtual 174, 3) := by decide +kernel
theorem dX5_lasts_11 : decode cX5_lasts 11 = .ok (.iconst 0, 1) := by decide +kernel
theorem dX5_lasts_12 : decode cX5_lasts 12 = .ok (.istore_n 1, 1) := by decide +kernel
theorem dX5_lasts_13 : decode cX5_lasts 13 = .ok (.iload_n 1, 1) := by decide +kernel
theorem dX5_lasts_14 : decode cX5_lasts 14 = .ok (.sipush 200, 3) := by decide +kernel
theorem dX5_lasts_17 : decode cX5_lasts 17 = .ok (.if_icmp .gt 31, 3) := by decide +kernel
theorem dX5_lasts_20 : decode cX5_lasts 20 = .ok (.aload_n 0, 1) := by decide +kernel
theorem dX5_lasts_21 : decode cX5_lasts 21 = .ok (.getfield 23, 3) := by decide +kernel
theorem dX5_lasts_24 : decode cX5_lasts 24 = .ok (.iconst 1, 1) := by decide +kernel
theorem dX5_lasts_25 : decode cX5_lasts 25 = .ok (.invokevirtual 89, 3) := by decide +kernel
theorem dX5_lasts_28 : decode cX5_lasts 28 = .ok (.ifCond .ne 5, 3) := by decide +kernel
theorem dX5_lasts_31 : decode cX5_lasts 31 = .ok (.iload_n 1, 1) := by decide +kernel
theorem dX5_lasts_32 : decode cX5_lasts 32 = .ok (.ireturn, 1) := by decide +kernel
theorem dX5_lasts_33 : decode cX5_lasts 33 = .ok (.aload_n 0, 1) := by decide +kernel
theorem dX5_lasts_34 : decode cX5_lasts 34 = .ok (.getfield 23, 3) := by decide +kernel
theorem dX5_lasts_37 : decode cX5_lasts 37 = .ok (.iconst 1, 1) := by decide +kernel
theorem dX5_lasts_38 : decode cX5_lasts 38 = .ok (.invokevirtual 170, 3) := by decide +kernel
theorem dX5_lasts_41 : decode cX5_lasts 41 = .ok (.pop, 1) := by decide +kernel
theorem dX5_lasts_42 : decode cX5_lasts 42 = .ok (.iinc 1 1, 3) := by decide +kernel
theorem dX5_lasts_45 : decode cX5_lasts 45 = .ok (.goto (-32), 3) := by decide +kernel
theorem dX5_lasts_48 : decode cX5_lasts 48 = .ok (.iconst (-1), 1) := by decide +kernel
theorem dX5_lasts_49 : decode cX5_lasts 49 = .ok (.ireturn, 1) := by decide +kernel
theorem dX5_isFree_0 : decode cX5_isFree 0 = .ok (.aload_n 0, 1) := by decide +kernel
theorem dX5_isFree_1 : decode cX5_isFree 1 = .ok (.getfield 12, 3) := by decide +kernel
theorem dX5_isFree_4 : decode cX5_isFree 4 = .ok (.iload_n 1, 1) := by decide +kernel
theorem dX5_isFree_5 : decode cX5_isFree 5 = .ok (.invokevirtual 111, 3) := by decide +kernel
theorem dX5_isFree_8 : decode cX5_isFree 8 = .ok (.ifCond .eq 29, 3) := by decide +kernel
theorem dX5_isFree_11 : decode cX5_isFree 11 = .ok (.aload_n 0, 1) := by decide +kernel
theorem dX5_isFree_12 : decode cX5_isFree 12 = .ok (.getfield 19, 3) := by decide +kernel
theorem dX5_isFree_15 : decode cX5_isFree 15 = .ok (.iload_n 1, 1) := by decide +kernel
theorem dX5_isFree_16 : decode cX5_isFree 16 = .ok (.invokevirtual 102, 3) := by decide +kernel
theorem dX5_isFree_19 : decode cX5_isFree 19 = .ok (.ifCond .ne 18, 3) := by decide +kernel
theorem dX5_isFree_22 : decode cX5_isFree 22 = .ok (.aload_n 0, 1) := by decide +kernel
theorem dX5_isFree_23 : decode cX5_isFree 23 = .ok (.getfield 19, 3) := by decide +kernel
theorem dX5_isFree_26 : decode cX5_isFree 26 = .ok (.iload_n 1, 1) := by decide +kernel
theorem dX5_isFree_27 : decode cX5_isFree 27 = .ok (.invokevirtual 193, 3) := by decide +kernel
theorem dX5_isFree_30 : decode cX5_isFree 30 = .ok (.ifCond .ne 7, 3) := by decide +kernel
theorem dX5_isFree_33 : decode cX5_isFree 33 = .ok (.iconst 1, 1) := by decide +kernel
theorem dX5_isFree_34 : decode cX5_isFree 34 = .ok (.goto 4, 3) := by decide +kernel
theorem dX5_isFree_37 : decode cX5_isFree 37 = .ok (.iconst 0, 1) := by decide +kernel
theorem dX5_isFree_38 : decode cX5_isFree 38 = .ok (.ireturn, 1) := by decide +kernel
theorem dX5_requireHouse_0 : decode cX5_requireHouse 0 = .ok (.iload_n 1, 1) := by decide +kernel
theorem dX5_requireHouse_1 : decode cX5_requireHouse 1 = .ok (.ifCond .lt 17, 3) := by decide +kernel
theorem dX5_requireHouse_4 : decode cX5_requireHouse 4 = .ok (.iload_n 1, 1) := by decide +kernel
theorem dX5_requireHouse_5 : decode cX5_requireHouse 5 = .ok (.aload_n 0, 1) := by decide +kernel
theorem dX5_requireHouse_6 : decode cX5_requireHouse 6 = .ok (.getfield 19, 3) := by decide +kernel
theorem dX5_requireHouse_9 : decode cX5_requireHouse 9 = .ok (.getfield 42, 3) := by decide +kernel
theorem dX5_requireHouse_12 : decode cX5_requireHouse 12 = .ok (.invokevirtual 46, 3) := by decide +kernel
theorem dX5_requireHouse_15 : decode cX5_requireHouse 15 = .ok (.if_icmp .lt 13, 3) := by decide +kernel
theorem dX5_requireHouse_18 : decode cX5_requireHouse 18 = .ok (.new 160, 3) := by decide +kernel
theorem dX5_requireHouse_21 : decode cX5_requireHouse 21 = .ok (.dup, 1) := by decide +kernel
theorem dX5_requireHouse_22 : decode cX5_requireHouse 22 = .ok (.ldc 196, 2) := by decide +kernel
theorem dX5_requireHouse_24 : decode cX5_requireHouse 24 = .ok (.invokespecial 164, 3) := by decide +kernel
theorem dX5_requireHouse_27 : decode cX5_requireHouse 27 = .ok (.athrow, 1) := by decide +kernel
theorem dX5_requireHouse_28 : decode cX5_requireHouse 28 = .ok (.return_, 1) := by decide +kernel
theorem dX5_requireEngine_0 : decode cX5_requireEngine 0 = .ok (.iload_n 1, 1) := by decide +kernel
theorem dX5_requireEngine_1 : decode cX5_requireEngine 1 = .ok (.ifCond .lt 17, 3) := by decide +kernel
theorem dX5_requireEngine_4 : decode cX5_requireEngine 4 = .ok (.iload_n 1, 1) := by decide +kernel
theorem dX5_requireEngine_5 : decode cX5_requireEngine 5 = .ok (.aload_n 0, 1) := by decide +kernel
theorem dX5_requireEngine_6 : decode cX5_requireEngine 6 = .ok (.getfield 19, 3) := by decide +kernel
theorem dX5_requireEngine_9 : decode cX5_requireEngine 9 = .ok (.getfield 114, 3) := by decide +kernel
theorem dX5_requireEngine_12 : decode cX5_requireEngine 12 = .ok (.invokevirtual 46, 3) := by decide +kernel
theorem dX5_requireEngine_15 : decode cX5_requireEngine 15 = .ok (.if_icmp .lt 13, 3) := by decide +kernel
theorem dX5_requireEngine_18 : decode cX5_requireEngine 18 = .ok (.new 160, 3) := by decide +kernel
theorem dX5_requireEngine_21 : decode cX5_requireEngine 21 = .ok (.dup, 1) := by decide +kernel
theorem dX5_requireEngine_22 : decode cX5_requireEngine 22 = .ok (.ldc 198, 2) := by decide +kernel
theorem dX5_requireEngine_24 : decode cX5_requireEngine 24 = .ok (.invokespecial 164, 3) := by decide +kernel
theorem dX5_requireEngine_27 : decode cX5_requireEngine 27 = .ok (.athrow, 1) := by decide +kernel
theorem dX5_requireEngine_28 : decode cX5_requireEngine 28 = .ok (.return_, 1) := by decide +kernel
theorem dX5_requireCell_0 : decode cX5_requireCell 0 = .ok (.iload_n 0, 1) := by decide +kernel
theorem dX5_requireCell_1 : decode cX5_requireCell 1 = .ok (.iload_n 1, 1) := by decide +kernel
theorem dX5_requireCell_2 : decode cX5_requireCell 2 = .ok (.invokestatic 200, 3) := by decide +kernel
theorem dX5_requireCell_5 : decode cX5_requireCell 5 = .ok (.ifCond .ne 13, 3) := by decide +kernel
theorem dX5_requireCell_8 : decode cX5_requireCell 8 = .ok (.new 160, 3) := by decide +kernel
theorem dX5_requireCell_11 : decode cX5_requireCell 11 = .ok (.dup, 1) := by decide +kernel
theorem dX5_requireCell_12 : decode cX5_requireCell 12 = .ok (.ldc 203, 2) := by decide +kernel
theorem dX5_requireCell_14 : decode cX5_requireCell 14 = .ok (.invokespecial 164, 3) := by decide +kernel
theorem dX5_requireCell_17 : decode cX5_requireCell 17 = .ok (.athrow, 1) := by decide +kernel
theorem dX5_requireCell_18 : decode cX5_requireCell 18 = .ok (.return_, 1) := by decide +kernel
theorem dX5_requireQuestion_0 : decode cX5_requireQuestion 0 = .ok (.iload_n 0, 1) := by decide +kernel
theorem dX5_requireQuestion_1 : decode cX5_requireQuestion 1 = .ok (.ifCond .lt 8, 3) := by decide +kernel
theorem dX5_requireQuestion_4 : decode cX5_requireQuestion 4 = .ok (.iload_n 0, 1) := by decide +kernel
theorem dX5_requireQuestion_5 : decode cX5_requireQuestion 5 = .ok (.iload_n 1, 1) := by decide +kernel
theorem dX5_requireQuestion_6 : decode cX5_requireQuestion 6 = .ok (.if_icmp .le 13, 3) := by decide +kernel
theorem dX5_requireQuestion_9 : decode cX5_requireQuestion 9 = .ok (.new 160, 3) := by decide +kernel
theorem dX5_requireQuestion_12 : decode cX5_requireQuestion 12 = .ok (.dup, 1) := by decide +kernel
theorem dX5_requireQuestion_13 : decode cX5_requireQuestion 13 = .ok (.ldc 205, 2) := by decide +kernel
theorem dX5_requireQuestion_15 : decode cX5_requireQuestion 15 = .ok (.invokespecial 164, 3) := by decide +kernel
theorem dX5_requireQuestion_18 : decode cX5_requireQuestion 18 = .ok (.athrow, 1) := by decide +kernel
theorem dX5_requireQuestion_19 : decode cX5_requireQuestion 19 = .ok (.return_, 1) := by decide +kernel
theorem dX5_requireRange_0 : decode cX5_requireRange 0 = .ok (.iload_n 0, 1) := by decide +kernel
theorem dX5_requireRange_1 : decode cX5_requireRange 1 = .ok (.iload_n 1, 1) := by decide +kernel
theorem dX5_requireRange_2 : decode cX5_requireRange 2 = .ok (.if_icmp .lt 8, 3) := by decide +kernel
theorem dX5_requireRange_5 : decode cX5_requireRange 5 = .ok (.iload_n 0, 1) := by decide +kernel
theorem dX5_requireRange_6 : decode cX5_requireRange 6 = .ok (.iload_n 2, 1) := by decide +kernel
theorem dX5_requireRange_7 : decode cX5_requireRange 7 = .ok (.if_icmp .le 13, 3) := by decide +kernel
theorem dX5_requireRange_10 : decode cX5_requireRange 10 = .ok (.new 207, 3) := by decide +kernel
theorem dX5_requireRange_13 : decode cX5_requireRange 13 = .ok (.dup, 1) := by decide +kernel
theorem dX5_requireRange_14 : decode cX5_requireRange 14 = .ok (.ldc 209, 2) := by decide +kernel
theorem dX5_requireRange_16 : decode cX5_requireRange 16 = .ok (.invokespecial 211, 3) := by decide +kernel
theorem dX5_requireRange_19 : decode cX5_requireRange 19 = .ok (.athrow, 1) := by decide +kernel
theorem dX5_requireRange_20 : decode cX5_requireRange 20 = .ok (.return_, 1) := by decide +kernel
theorem dX5_requireState_0 : decode cX5_requireState 0 = .ok (.iload_n 0, 1) := by decide +kernel
theorem dX5_requireState_1 : decode cX5_requireState 1 = .ok (.ifCond .ne 13, 3) := by decide +kernel
theorem dX5_requireState_4 : decode cX5_requireState 4 = .ok (.new 212, 3) := by decide +kernel
theorem dX5_requireState_7 : decode cX5_requireState 7 = .ok (.dup, 1) := by decide +kernel
theorem dX5_requireState_8 : decode cX5_requireState 8 = .ok (.ldc 214, 2) := by decide +kernel
theorem dX5_requireState_10 : decode cX5_requireState 10 = .ok (.invokespecial 216, 3) := by decide +kernel
theorem dX5_requireState_13 : decode cX5_requireState 13 = .ok (.athrow, 1) := by decide +kernel
theorem dX5_requireState_14 : decode cX5_requireState 14 = .ok (.return_, 1) := by decide +kernel
theorem dX5_isOnMap_0 : decode cX5_isOnMap 0 = .ok (.iload_n 0, 1) := by decide +kernel
theorem dX5_isOnMap_1 : decode cX5_isOnMap 1 = .ok (.ifCond .lt 23, 3) := by decide +kernel
theorem dX5_isOnMap_4 : decode cX5_isOnMap 4 = .ok (.iload_n 0, 1) := by decide +kernel
theorem dX5_isOnMap_5 : decode cX5_isOnMap 5 = .ok (.bipush 14, 2) := by decide +kernel
theorem dX5_isOnMap_7 : decode cX5_isOnMap 7 = .ok (.if_icmp .ge 17, 3) := by decide +kernel
theorem dX5_isOnMap_10 : decode cX5_isOnMap 10 = .ok (.iload_n 1, 1) := by decide +kernel
theorem dX5_isOnMap_11 : decode cX5_isOnMap 11 = .ok (.ifCond .lt 13, 3) := by decide +kernel
theorem dX5_isOnMap_14 : decode cX5_isOnMap 14 = .ok (.iload_n 1, 1) := by decide +kernel
theorem dX5_isOnMap_15 : decode cX5_isOnMap 15 = .ok (.bipush 10, 2) := by decide +kernel
theorem dX5_isOnMap_17 : decode cX5_isOnMap 17 = .ok (.if_icmp .ge 7, 3) := by decide +kernel
theorem dX5_isOnMap_20 : decode cX5_isOnMap 20 = .ok (.iconst 1, 1) := by decide +kernel
theorem dX5_isOnMap_21 : decode cX5_isOnMap 21 = .ok (.goto 4, 3) := by decide +kernel
theorem dX5_isOnMap_24 : decode cX5_isOnMap 24 = .ok (.iconst 0, 1) := by decide +kernel
theorem dX5_isOnMap_25 : decode cX5_isOnMap 25 = .ok (.ireturn, 1) := by decide +kernel
theorem dX5_cellAt_0 : decode cX5_cellAt 0 = .ok (.iload_n 0, 1) := by decide +kernel
theorem dX5_cellAt_1 : decode cX5_cellAt 1 = .ok (.bipush 14, 2) := by decide +kernel
theorem dX5_cellAt_3 : decode cX5_cellAt 3 = .ok (.iload_n 1, 1) := by decide +kernel
theorem dX5_cellAt_4 : decode cX5_cellAt 4 = .ok (.imul, 1) := by decide +kernel
theorem dX5_cellAt_5 : decode cX5_cellAt 5 = .ok (.iadd, 1) := by decide +kernel
theorem dX5_cellAt_6 : decode cX5_cellAt 6 = .ok (.ireturn, 1) := by decide +kernel
theorem dX5_distance_0 : decode cX5_distance 0 = .ok (.iload_n 0, 1) := by decide +kernel
theorem dX5_distance_1 : decode cX5_distance 1 = .ok (.bipush 14, 2) := by decide +kernel
theorem dX5_distance_3 : decode cX5_distance 3 = .ok (.irem, 1) := by decide +kernel
theorem dX5_distance_4 : decode cX5_distance 4 = .ok (.iload_n 1, 1) := by decide +kernel
theorem dX5_distance_5 : decode cX5_distance 5 = .ok (.bipush 14, 2) := by decide +kernel
theorem dX5_distance_7 : decode cX5_distance 7 = .ok (.irem, 1) := by decide +kernel
theorem dX5_distance_8 : decode cX5_distance 8 = .ok (.isub, 1) := by decide +kernel
theorem dX5_distance_9 : decode cX5_distance 9 = .ok (.invokestatic 217, 3) := by decide +kernel
theorem dX5_distance_12 : decode cX5_distance 12 = .ok (.iload_n 0, 1) := by decide +kernel
theorem dX5_distance_13 : decode cX5_distance 13 = .ok (.bipush 14, 2) := by decide +kernel
theorem dX5_distance_15 : decode cX5_distance 15 = .ok (.idiv, 1) := by decide +kernel
theorem dX5_distance_16 : decode cX5_distance 16 = .ok (.iload_n 1, 1) := by decide +kernel
theorem dX5_distance_17 : decode cX5_distance 17 = .ok (.bipush 14, 2) := by decide +kernel
theorem dX5_distance_19 : decode cX5_distance 19 = .ok (.idiv, 1) := by decide +kernel
theorem dX5_distance_20 : decode cX5_distance 20 = .ok (.isub, 1) := by decide +kernel
theorem dX5_distance_21 : decode cX5_distance 21 = .ok (.invokestatic 217, 3) := by decide +kernel
theorem dX5_distance_24 : decode cX5_distance 24 = .ok (.iadd, 1) := by decide +kernel
theorem dX5_distance_25 : decode cX5_distance 25 = .ok (.ireturn, 1) := by decide +kernel
theorem dX5_areNear_0 : decode cX5_areNear 0 = .ok (.iload_n 0, 1) := by decide +kernel
theorem dX5_areNear_1 : decode cX5_areNear 1 = .ok (.bipush 14, 2) := by decide +kernel
theorem dX5_areNear_3 : decode cX5_areNear 3 = .ok (.irem, 1) := by decide +kernel
theorem dX5_areNear_4 : decode cX5_areNear 4 = .ok (.iload_n 1, 1) := by decide +kernel
theorem dX5_areNear_5 : decode cX5_areNear 5 = .ok (.bipush 14, 2) := by decide +kernel
theorem dX5_areNear_7 : decode cX5_areNear 7 = .ok (.irem, 1) := by decide +kernel
theorem dX5_areNear_8 : decode cX5_areNear 8 = .ok (.isub, 1) := by decide +kernel
theorem dX5_areNear_9 : decode cX5_areNear 9 = .ok (.istore_n 2, 1) := by decide +kernel
theorem dX5_areNear_10 : decode cX5_areNear 10 = .ok (.iload_n 0, 1) := by decide +kernel
theorem dX5_areNear_11 : decode cX5_areNear 11 = .ok (.bipush 14, 2) := by decide +kernel
theorem dX5_areNear_13 : decode cX5_areNear 13 = .ok (.idiv, 1) := by decide +kernel
theorem dX5_areNear_14 : decode cX5_areNear 14 = .ok (.iload_n 1, 1) := by decide +kernel
theorem dX5_areNear_15 : decode cX5_areNear 15 = .ok (.bipush 14, 2) := by decide +kernel
theorem dX5_areNear_17 : decode cX5_areNear 17 = .ok (.idiv, 1) := by decide +kernel
theorem dX5_areNear_18 : decode cX5_areNear 18 = .ok (.isub, 1) := by decide +kernel
theorem dX5_areNear_19 : decode cX5_areNear 19 = .ok (.istore_n 3, 1) := by decide +kernel
theorem dX5_areNear_20 : decode cX5_areNear 20 = .ok (.iload_n 0, 1) := by decide +kernel
theorem dX5_areNear_21 : decode cX5_areNear 21 = .ok (.iload_n 1, 1) := by decide +kernel
theorem dX5_areNear_22 : decode cX5_areNear 22 = .ok (.if_icmp .eq 21, 3) := by decide +kernel
theorem dX5_areNear_25 : decode cX5_areNear 25 = .ok (.iload_n 2, 1) := by decide +kernel
theorem dX5_areNear_26 : decode cX5_areNear 26 = .ok (.iload_n 2, 1) := by decide +kernel
theorem dX5_areNear_27 : decode cX5_areNear 27 = .ok (.imul, 1) := by decide +kernel
theorem dX5_areNear_28 : decode cX5_areNear 28 = .ok (.iconst 1, 1) := by decide +kernel
theorem dX5_areNear_29 : decode cX5_areNear 29 = .ok (.if_icmp .gt 14, 3) := by decide +kernel
theorem dX5_areNear_32 : decode cX5_areNear 32 = .ok (.iload_n 3, 1) := by decide +kernel
theorem dX5_areNear_33 : decode cX5_areNear 33 = .ok (.iload_n 3, 1) := by decide +kernel
theorem dX5_areNear_34 : decode cX5_areNear 34 = .ok (.imul, 1) := by decide +kernel
theorem dX5_areNear_35 : decode cX5_areNear 35 = .ok (.iconst 1, 1) := by decide +kernel
theorem dX5_areNear_36 : decode cX5_areNear 36 = .ok (.if_icmp .gt 7, 3) := by decide +kernel
theorem dX5_areNear_39 : decode cX5_areNear 39 = .ok (.iconst 1, 1) := by decide +kernel
theorem dX5_areNear_40 : decode cX5_areNear 40 = .ok (.goto 4, 3) := by decide +kernel
theorem dX5_areNear_43 : decode cX5_areNear 43 = .ok (.iconst 0, 1) := by decide +kernel
theorem dX5_areNear_44 : decode cX5_areNear 44 = .ok (.ireturn, 1) := by decide +kernel
theorem dX6_init_0 : decode cX6_init 0 = .ok (.aload_n 0, 1) := by decide +kernel
theorem dX6_init_1 : decode cX6_init 1 = .ok (.invokespecial 1, 3) := by decide +kernel
theorem dX6_init_4 : decode cX6_init 4 = .ok (.aload_n 0, 1) := by decide +kernel
theorem dX6_init_5 : decode cX6_init 5 = .ok (.bipush 60, 2) := by decide +kernel
theorem dX6_init_7 : decode cX6_init 7 = .ok (.putfield 7, 3) := by decide +kernel
theorem dX6_init_10 : decode cX6_init 10 = .ok (.aload_n 0, 1) := by decide +kernel
theorem dX6_init_11 : decode cX6_init 11 = .ok (.iconst (-1), 1) := by decide +kernel
theorem dX6_init_12 : decode cX6_init 12 = .ok (.putfield 13, 3) := by decide +kernel
theorem dX6_init_15 : decode cX6_init 15 = .ok (.return_, 1) := by decide +kernel
theorem dX6_pumps_0 : decode cX6_pumps 0 = .ok (.aload_n 0, 1) := by decide +kernel
theorem dX6_pumps_1 : decode cX6_pumps 1 = .ok (.getfield 29, 3) := by decide +kernel
theorem dX6_pumps_4 : decode cX6_pumps 4 = .ok (.ifCond .gt 12, 3) := by decide +kernel
theorem dX6_pumps_7 : decode cX6_pumps 7 = .ok (.aload_n 0, 1) := by decide +kernel
theorem dX6_pumps_8 : decode cX6_pumps 8 = .ok (.getfield 26, 3) := by decide +kernel
theorem dX6_pumps_11 : decode cX6_pumps 11 = .ok (.bipush 20, 2) := by decide +kernel
theorem dX6_pumps_13 : decode cX6_pumps 13 = .ok (.if_icmp .ge 7, 3) := by decide +kernel
theorem dX6_pumps_16 : decode cX6_pumps 16 = .ok (.iconst 0, 1) := by decide +kernel
theorem dX6_pumps_17 : decode cX6_pumps 17 = .ok (.goto 15, 3) := by decide +kernel
theorem dX6_pumps_20 : decode cX6_pumps 20 = .ok (.aload_n 0, 1) := by decide +kernel
theorem dX6_pumps_21 : decode cX6_pumps 21 = .ok (.getfield 23, 3) := by decide +kernel
theorem dX6_pumps_24 : decode cX6_pumps 24 = .ok (.aload_n 0, 1) := by decide +kernel
theorem dX6_pumps_25 : decode cX6_pumps 25 = .ok (.getfield 26, 3) := by decide +kernel
theorem dX6_pumps_28 : decode cX6_pumps 28 = .ok (.imul, 1) := by decide +kernel
theorem dX6_pumps_29 : decode cX6_pumps 29 = .ok (.bipush 20, 2) := by decide +kernel
theorem dX6_pumps_31 : decode cX6_pumps 31 = .ok (.idiv, 1) := by decide +kernel
theorem dX6_pumps_32 : decode cX6_pumps 32 = .ok (.ireturn, 1) := by decide +kernel
theorem dX7_init_0 : decode cX7_init 0 = .ok (.aload_n 0, 1) := by decide +kernel
theorem dX7_init_1 : decode cX7_init 1 = .ok (.invokespecial 1, 3) := by decide +kernel
theorem dX7_init_4 : decode cX7_init 4 = .ok (.return_, 1) := by decide +kernel
theorem dX8_init_0 : decode cX8_init 0 = .ok (.aload_n 0, 1) := by decide +kernel
theorem dX8_init_1 : decode cX8_init 1 = .ok (.invokespecial 1, 3) := by decide +kernel
theorem dX8_init_4 : decode cX8_init 4 = .ok (.aload_n 0, 1) := by decide +kernel
theorem dX8_init_5 : decode cX8_init 5 = .ok (.iconst 0, 1) := by decide +kernel
theorem dX8_init_6 : decode cX8_init 6 = .ok (.anewarray 7, 3) := by decide +kernel
theorem dX8_init_9 : decode cX8_init 9 = .ok (.putfield 9, 3) := by decide +kernel
theorem dX8_init_12 : decode cX8_init 12 = .ok (.aload_n 0, 1) := by decide +kernel
theorem dX8_init_13 : decode cX8_init 13 = .ok (.iconst 0, 1) := by decide +kernel
theorem dX8_init_14 : decode cX8_init 14 = .ok (.anewarray 15, 3) := by decide +kernel
theorem dX8_init_17 : decode cX8_init 17 = .ok (.putfield 17, 3) := by decide +kernel
theorem dX8_init_20 : decode cX8_init 20 = .ok (.aload_n 0, 1) := by decide +kernel
theorem dX8_init_21 : decode cX8_init 21 = .ok (.iconst 0, 1) := by decide +kernel
theorem dX8_init_22 : decode cX8_init 22 = .ok (.anewarray 21, 3) := by decide +kernel
theorem dX8_init_25 : decode cX8_init 25 = .ok (.putfield 23, 3) := by decide +kernel
theorem dX8_init_28 : decode cX8_init 28 = .ok (.return_, 1) := by decide +kernel
theorem dX8_far_0 : decode cX8_far 0 = .ok (.iload_n 0, 1) := by decide +kernel
theorem dX8_far_1 : decode cX8_far 1 = .ok (.bipush 14, 2) := by decide +kernel
theorem dX8_far_3 : decode cX8_far 3 = .ok (.irem, 1) := by decide +kernel
theorem dX8_far_4 : decode cX8_far 4 = .ok (.iload_n 1, 1) := by decide +kernel
theorem dX8_far_5 : decode cX8_far 5 = .ok (.bipush 14, 2) := by decide +kernel
theorem dX8_far_7 : decode cX8_far 7 = .ok (.irem, 1) := by decide +kernel
theorem dX8_far_8 : decode cX8_far 8 = .ok (.isub, 1) := by decide +kernel
theorem dX8_far_9 : decode cX8_far 9 = .ok (.invokestatic 43, 3) := by decide +kernel
theorem dX8_far_12 : decode cX8_far 12 = .ok (.iload_n 0, 1) := by decide +kernel
theorem dX8_far_13 : decode cX8_far 13 = .ok (.bipush 14, 2) := by decide +kernel
theorem dX8_far_15 : decode cX8_far 15 = .ok (.idiv, 1) := by decide +kernel
theorem dX8_far_16 : decode cX8_far 16 = .ok (.iload_n 1, 1) := by decide +kernel
theorem dX8_far_17 : decode cX8_far 17 = .ok (.bipush 14, 2) := by decide +kernel
theorem dX8_far_19 : decode cX8_far 19 = .ok (.idiv, 1) := by decide +kernel
theorem dX8_far_20 : decode cX8_far 20 = .ok (.isub, 1) := by decide +kernel
theorem dX8_far_21 : decode cX8_far 21 = .ok (.invokestatic 43, 3) := by decide +kernel
theorem dX8_far_24 : decode cX8_far 24 = .ok (.iadd, 1) := by decide +kernel
theorem dX8_far_25 : decode cX8_far 25 = .ok (.ireturn, 1) := by decide +kernel
theorem dX8_isNear_0 : decode cX8_isNear 0 = .ok (.iload_n 0, 1) := by decide +kernel
theorem dX8_isNear_1 : decode cX8_isNear 1 = .ok (.iload_n 1, 1) := by decide +kernel
theorem dX8_isNear_2 : decode cX8_isNear 2 = .ok (.if_icmp .eq 38, 3) := by decide +kernel
theorem dX8_isNear_5 : decode cX8_isNear 5 = .ok (.iload_n 0, 1) := by decide +kernel
theorem dX8_isNear_6 : decode cX8_isNear 6 = .ok (.bipush 14, 2) := by decide +kernel
theorem dX8_isNear_8 : decode cX8_isNear 8 = .ok (.irem, 1) := by decide +kernel
theorem dX8_isNear_9 : decode cX8_isNear 9 = .ok (.iload_n 1, 1) := by decide +kernel
theorem dX8_isNear_10 : decode cX8_isNear 10 = .ok (.bipush 14, 2) := by decide +kernel
theorem dX8_isNear_12 : decode cX8_isNear 12 = .ok (.irem, 1) := by decide +kernel
theorem dX8_isNear_13 : decode cX8_isNear 13 = .ok (.isub, 1) := by decide +kernel
theorem dX8_isNear_14 : decode cX8_isNear 14 = .ok (.invokestatic 43, 3) := by decide +kernel
theorem dX8_isNear_17 : decode cX8_isNear 17 = .ok (.iload_n 0, 1) := by decide +kernel
theorem dX8_isNear_18 : decode cX8_isNear 18 = .ok (.bipush 14, 2) := by decide +kernel
theorem dX8_isNear_20 : decode cX8_isNear 20 = .ok (.idiv, 1) := by decide +kernel
theorem dX8_isNear_21 : decode cX8_isNear 21 = .ok (.iload_n 1, 1) := by decide +kernel
theorem dX8_isNear_22 : decode cX8_isNear 22 = .ok (.bipush 14, 2) := by decide +kernel
theorem dX8_isNear_24 : decode cX8_isNear 24 = .ok (.idiv, 1) := by decide +kernel
theorem dX8_isNear_25 : decode cX8_isNear 25 = .ok (.isub, 1) := by decide +kernel
theorem dX8_isNear_26 : decode cX8_isNear 26 = .ok (.invokestatic 43, 3) := by decide +kernel
theorem dX8_isNear_29 : decode cX8_isNear 29 = .ok (.invokestatic 49, 3) := by decide +kernel
theorem dX8_isNear_32 : decode cX8_isNear 32 = .ok (.iconst 1, 1) := by decide +kernel
theorem dX8_isNear_33 : decode cX8_isNear 33 = .ok (.if_icmp .ne 7, 3) := by decide +kernel
theorem dX8_isNear_36 : decode cX8_isNear 36 = .ok (.iconst 1, 1) := by decide +kernel
theorem dX8_isNear_37 : decode cX8_isNear 37 = .ok (.goto 4, 3) := by decide +kernel
theorem dX8_isNear_40 : decode cX8_isNear 40 = .ok (.iconst 0, 1) := by decide +kernel
theorem dX8_isNear_41 : decode cX8_isNear 41 = .ok (.ireturn, 1) := by decide +kernel
theorem dX8_build_0 : decode cX8_build 0 = .ok (.aload_n 0, 1) := by decide +kernel
theorem dX8_build_1 : decode cX8_build 1 = .ok (.getfield 9, 3) := by decide +kernel
theorem dX8_build_4 : decode cX8_build 4 = .ok (.arraylength, 1) := by decide +kernel
theorem dX8_build_5 : decode cX8_build 5 = .ok (.iconst 1, 1) := by decide +kernel
theorem dX8_build_6 : decode cX8_build 6 = .ok (.iadd, 1) := by decide +kernel
theorem dX8_build_7 : decode cX8_build 7 = .ok (.anewarray 7, 3) := by decide +kernel
theorem dX8_build_10 : decode cX8_build 10 = .ok (.astore 4, 2) := by decide +kernel
theorem dX8_build_12 : decode cX8_build 12 = .ok (.iconst 0, 1) := by decide +kernel
theorem dX8_build_13 : decode cX8_build 13 = .ok (.istore 5, 2) := by decide +kernel
theorem dX8_build_15 : decode cX8_build 15 = .ok (.iload 5, 2) := by decide +kernel
theorem dX8_build_17 : decode cX8_build 17 = .ok (.aload_n 0, 1) := by decide +kernel
theorem dX8_build_18 : decode cX8_build 18 = .ok (.getfield 9, 3) := by decide +kernel
theorem dX8_build_21 : decode cX8_build 21 = .ok (.arraylength, 1) := by decide +kernel
theorem dX8_build_22 : decode cX8_build 22 = .ok (.if_icmp .ge 21, 3) := by decide +kernel
theorem dX8_build_25 : decode cX8_build 25 = .ok (.aload 4, 2) := by decide +kernel
theorem dX8_build_27 : decode cX8_build 27 = .ok (.iload 5, 2) := by decide +kernel
theorem dX8_build_29 : decode cX8_build 29 = .ok (.aload_n 0, 1) := by decide +kernel
theorem dX8_build_30 : decode cX8_build 30 = .ok (.getfield 9, 3) := by decide +kernel
theorem dX8_build_33 : decode cX8_build 33 = .ok (.iload 5, 2) := by decide +kernel
theorem dX8_build_35 : decode cX8_build 35 = .ok (.aaload, 1) := by decide +kernel
theorem dX8_build_36 : decode cX8_build 36 = .ok (.aastore, 1) := by decide +kernel
theorem dX8_build_37 : decode cX8_build 37 = .ok (.iinc 5 1, 3) := by decide +kernel
theorem dX8_build_40 : decode cX8_build 40 = .ok (.goto (-25), 3) := by decide +kernel
theorem dX8_build_43 : decode cX8_build 43 = .ok (.new 7, 3) := by decide +kernel
theorem dX8_build_46 : decode cX8_build 46 = .ok (.dup, 1) := by decide +kernel
theorem dX8_build_47 : decode cX8_build 47 = .ok (.invokespecial 53, 3) := by decide +kernel
theorem dX8_build_50 : decode cX8_build 50 = .ok (.astore 5, 2) := by decide +kernel
theorem dX8_build_52 : decode cX8_build 52 = .ok (.aload 5, 2) := by decide +kernel
theorem dX8_build_54 : decode cX8_build 54 = .ok (.iload_n 1, 1) := by decide +kernel
theorem dX8_build_55 : decode cX8_build 55 = .ok (.putfield 54, 3) := by decide +kernel
theorem dX8_build_58 : decode cX8_build 58 = .ok (.aload 5, 2) := by decide +kernel
theorem dX8_build_60 : decode cX8_build 60 = .ok (.iload_n 2, 1) := by decide +kernel
theorem dX8_build_61 : decode cX8_build 61 = .ok (.putfield 57, 3) := by decide +kernel
theorem dX8_build_64 : decode cX8_build 64 = .ok (.aload 5, 2) := by decide +kernel
theorem dX8_build_66 : decode cX8_build 66 = .ok (.iload_n 3, 1) := by decide +kernel
theorem dX8_build_67 : decode cX8_build 67 = .ok (.putfield 60, 3) := by decide +kernel
theorem dX8_build_70 : decode cX8_build 70 = .ok (.aload 4, 2) := by decide +kernel
theorem dX8_build_72 : decode cX8_build 72 = .ok (.aload_n 0, 1) := by decide +kernel
theorem dX8_build_73 : decode cX8_build 73 = .ok (.getfield 9, 3) := by decide +kernel
theorem dX8_build_76 : decode cX8_build 76 = .ok (.arraylength, 1) := by decide +kernel
theorem dX8_build_77 : decode cX8_build 77 = .ok (.aload 5, 2) := by decide +kernel
theorem dX8_build_79 : decode cX8_build 79 = .ok (.aastore, 1) := by decide +kernel
theorem dX8_build_80 : decode cX8_build 80 = .ok (.aload_n 0, 1) := by decide +kernel
theorem dX8_build_81 : decode cX8_build 81 = .ok (.aload 4, 2) := by decide +kernel
theorem dX8_build_83 : decode cX8_build 83 = .ok (.putfield 9, 3) := by decide +kernel
theorem dX8_build_86 : decode cX8_build 86 = .ok (.return_, 1) := by decide +kernel
theorem dX8_come_0 : decode cX8_come 0 = .ok (.aload_n 0, 1) := by decide +kernel
theorem dX8_come_1 : decode cX8_come 1 = .ok (.getfield 17, 3) := by decide +kernel
theorem dX8_come_4 : decode cX8_come 4 = .ok (.arraylength, 1) := by decide +kernel
theorem dX8_come_5 : decode cX8_come 5 = .ok (.iconst 1, 1) := by decide +kernel
theorem dX8_come_6 : decode cX8_come 6 = .ok (.iadd, 1) := by decide +kernel
theorem dX8_come_7 : decode cX8_come 7 = .ok (.anewarray 15, 3) := by decide +kernel
theorem dX8_come_10 : decode cX8_come 10 = .ok (.astore 4, 2) := by decide +kernel
theorem dX8_come_12 : decode cX8_come 12 = .ok (.iconst 0, 1) := by decide +kernel
theorem dX8_come_13 : decode cX8_come 13 = .ok (.istore 5, 2) := by decide +kernel
theorem dX8_come_15 : decode cX8_come 15 = .ok (.iload 5, 2) := by decide +kernel
theorem dX8_come_17 : decode cX8_come 17 = .ok (.aload_n 0, 1) := by decide +kernel
theorem dX8_come_18 : decode cX8_come 18 = .ok (.getfield 17, 3) := by decide +kernel
theorem dX8_come_21 : decode cX8_come 21 = .ok (.arraylength, 1) := by decide +kernel
theorem dX8_come_22 : decode cX8_come 22 = .ok (.if_icmp .ge 21, 3) := by decide +kernel
theorem dX8_come_25 : decode cX8_come 25 = .ok (.aload 4, 2) := by decide +kernel
theorem dX8_come_27 : decode cX8_come 27 = .ok (.iload 5, 2) := by decide +kernel
theorem dX8_come_29 : decode cX8_come 29 = .ok (.aload_n 0, 1) := by decide +kernel
theorem dX8_come_30 : decode cX8_come 30 = .ok (.getfield 17, 3) := by decide +kernel
theorem dX8_come_33 : decode cX8_come 33 = .ok (.iload 5, 2) := by decide +kernel
theorem dX8_come_35 : decode cX8_come 35 = .ok (.aaload, 1) := by decide +kernel
theorem dX8_come_36 : decode cX8_come 36 = .ok (.aastore, 1) := by decide +kernel
theorem dX8_come_37 : decode cX8_come 37 = .ok (.iinc 5 1, 3) := by decide +kernel
theorem dX8_come_40 : decode cX8_come 40 = .ok (.goto (-25), 3) := by decide +kernel
theorem dX8_come_43 : decode cX8_come 43 = .ok (.new 15, 3) := by decide +kernel
theorem dX8_come_46 : decode cX8_come 46 = .ok (.dup, 1) := by decide +kernel
theorem dX8_come_47 : decode cX8_come 47 = .ok (.invokespecial 63, 3) := by decide +kernel
theorem dX8_come_50 : decode cX8_come 50 = .ok (.astore 5, 2) := by decide +kernel
theorem dX8_come_52 : decode cX8_come 52 = .ok (.aload 5, 2) := by decide +kernel
theorem dX8_come_54 : decode cX8_come 54 = .ok (.iload_n 1, 1) := by decide +kernel
theorem dX8_come_55 : decode cX8_come 55 = .ok (.putfield 64, 3) := by decide +kernel
theorem dX8_come_58 : decode cX8_come 58 = .ok (.aload 5, 2) := by decide +kernel
theorem dX8_come_60 : decode cX8_come 60 = .ok (.iload_n 2, 1) := by decide +kernel
theorem dX8_come_61 : decode cX8_come 61 = .ok (.putfield 65, 3) := by decide +kernel
theorem dX8_come_64 : decode cX8_come 64 = .ok (.aload 5, 2) := by decide +kernel
theorem dX8_come_66 : decode cX8_come 66 = .ok (.iload_n 3, 1) := by decide +kernel
theorem dX8_come_67 : decode cX8_come 67 = .ok (.putfield 68, 3) := by decide +kernel
theorem dX8_come_70 : decode cX8_come 70 = .ok (.aload 4, 2) := by decide +kernel
theorem dX8_come_72 : decode cX8_come 72 = .ok (.aload_n 0, 1) := by decide +kernel
theorem dX8_come_73 : decode cX8_come 73 = .ok (.getfield 17, 3) := by decide +kernel
theorem dX8_come_76 : decode cX8_come 76 = .ok (.arraylength, 1) := by decide +kernel
theorem dX8_come_77 : decode cX8_come 77 = .ok (.aload 5, 2) := by decide +kernel
theorem dX8_come_79 : decode cX8_come 79 = .ok (.aastore, 1) := by decide +kernel
theorem dX8_come_80 : decode cX8_come 80 = .ok (.aload_n 0, 1) := by decide +kernel
theorem dX8_come_81 : decode cX8_come 81 = .ok (.aload 4, 2) := by decide +kernel
theorem dX8_come_83 : decode cX8_come 83 = .ok (.putfield 17, 3) := by decide +kernel
theorem dX8_come_86 : decode cX8_come 86 = .ok (.return_, 1) := by decide +kernel
theorem dX8_dig_0 : decode cX8_dig 0 = .ok (.aload_n 0, 1) := by decide +kernel
theorem dX8_dig_1 : decode cX8_dig 1 = .ok (.getfield 23, 3) := by decide +kernel
theorem dX8_dig_4 : decode cX8_dig 4 = .ok (.arraylength, 1) := by decide +kernel
theorem dX8_dig_5 : decode cX8_dig 5 = .ok (.iconst 1, 1) := by decide +kernel
theorem dX8_dig_6 : decode cX8_dig 6 = .ok (.iadd, 1) := by decide +kernel
theorem dX8_dig_7 : decode cX8_dig 7 = .ok (.anewarray 21, 3) := by decide +kernel
theorem dX8_dig_10 : decode cX8_dig 10 = .ok (.astore_n 3, 1) := by decide +kernel
theorem dX8_dig_11 : decode cX8_dig 11 = .ok (.iconst 0, 1) := by decide +kernel
theorem dX8_dig_12 : decode cX8_dig 12 = .ok (.istore 4, 2) := by decide +kernel
theorem dX8_dig_14 : decode cX8_dig 14 = .ok (.iload 4, 2) := by decide +kernel
theorem dX8_dig_16 : decode cX8_dig 16 = .ok (.aload_n 0, 1) := by decide +kernel
theorem dX8_dig_17 : decode cX8_dig 17 = .ok (.getfield 23, 3) := by decide +kernel
theorem dX8_dig_20 : decode cX8_dig 20 = .ok (.arraylength, 1) := by decide +kernel
theorem dX8_dig_21 : decode cX8_dig 21 = .ok (.if_icmp .ge 20, 3) := by decide +kernel
theorem dX8_dig_24 : decode cX8_dig 24 = .ok (.aload_n 3, 1) := by decide +kernel
theorem dX8_dig_25 : decode cX8_dig 25 = .ok (.iload 4, 2) := by decide +kernel
theorem dX8_dig_27 : decode cX8_dig 27 = .ok (.aload_n 0, 1) := by decide +kernel
theorem dX8_dig_28 : decode cX8_dig 28 = .ok (.getfield 23, 3) := by decide +kernel
theorem dX8_dig_31 : decode cX8_dig 31 = .ok (.iload 4, 2) := by decide +kernel
theorem dX8_dig_33 : decode cX8_dig 33 = .ok (.aaload, 1) := by decide +kernel
theorem dX8_dig_34 : decode cX8_dig 34 = .ok (.aastore, 1) := by decide +kernel
theorem dX8_dig_35 : decode cX8_dig 35 = .ok (.iinc 4 1, 3) := by decide +kernel
theorem dX8_dig_38 : decode cX8_dig 38 = .ok (.goto (-24), 3) := by decide +kernel
theorem dX8_dig_41 : decode cX8_dig 41 = .ok (.aload_n 3, 1) := by decide +kernel
theorem dX8_dig_42 : decode cX8_dig 42 = .ok (.aload_n 0, 1) := by decide +kernel
theorem dX8_dig_43 : decode cX8_dig 43 = .ok (.getfield 23, 3) := by decide +kernel
theorem dX8_dig_46 : decode cX8_dig 46 = .ok (.arraylength, 1) := by decide +kernel
theorem dX8_dig_47 : decode cX8_dig 47 = .ok (.iconst 2, 1) := by decide +kernel
theorem dX8_dig_48 : decode cX8_dig 48 = .ok (.newarray .int, 2) := by decide +kernel
theorem dX8_dig_50 : decode cX8_dig 50 = .ok (.dup, 1) := by decide +kernel
theorem dX8_dig_51 : decode cX8_dig 51 = .ok (.iconst 0, 1) := by decide +kernel
theorem dX8_dig_52 : decode cX8_dig 52 = .ok (.iload_n 1, 1) := by decide +kernel
theorem dX8_dig_53 : decode cX8_dig 53 = .ok (.iastore, 1) := by decide +kernel
theorem dX8_dig_54 : decode cX8_dig 54 = .ok (.dup, 1) := by decide +kernel
theorem dX8_dig_55 : decode cX8_dig 55 = .ok (.iconst 1, 1) := by decide +kernel
theorem dX8_dig_56 : decode cX8_dig 56 = .ok (.iload_n 2, 1) := by decide +kernel
theorem dX8_dig_57 : decode cX8_dig 57 = .ok (.iastore, 1) := by decide +kernel
theorem dX8_dig_58 : decode cX8_dig 58 = .ok (.aastore, 1) := by decide +kernel
theorem dX8_dig_59 : decode cX8_dig 59 = .ok (.aload_n 0, 1) := by decide +kernel
theorem dX8_dig_60 : decode cX8_dig 60 = .ok (.aload_n 3, 1) := by decide +kernel
theorem dX8_dig_61 : decode cX8_dig 61 = .ok (.putfield 23, 3) := by decide +kernel
theorem dX8_dig_64 : decode cX8_dig 64 = .ok (.return_, 1) := by decide +kernel
theorem dX8_isStreet_0 : decode cX8_isStreet 0 = .ok (.aload_n 0, 1) := by decide +kernel
theorem dX8_isStreet_1 : decode cX8_isStreet 1 = .ok (.getfield 9, 3) := by decide +kernel
theorem dX8_isStreet_4 : decode cX8_isStreet 4 = .ok (.astore_n 2, 1) := by decide +kernel
theorem dX8_isStreet_5 : decode cX8_isStreet 5 = .ok (.aload_n 2, 1) := by decide +kernel
theorem dX8_isStreet_6 : decode cX8_isStreet 6 = .ok (.arraylength, 1) := by decide +kernel
theorem dX8_isStreet_7 : decode cX8_isStreet 7 = .ok (.istore_n 3, 1) := by decide +kernel
theorem dX8_isStreet_8 : decode cX8_isStreet 8 = .ok (.iconst 0, 1) := by decide +kernel
theorem dX8_isStreet_9 : decode cX8_isStreet 9 = .ok (.istore 4, 2) := by decide +kernel
theorem dX8_isStreet_11 : decode cX8_isStreet 11 = .ok (.iload 4, 2) := by decide +kernel
theorem dX8_isStreet_13 : decode cX8_isStreet 13 = .ok (.iload_n 3, 1) := by decide +kernel
theorem dX8_isStreet_14 : decode cX8_isStreet 14 = .ok (.if_icmp .ge 26, 3) := by decide +kernel
theorem dX8_isStreet_17 : decode cX8_isStreet 17 = .ok (.aload_n 2, 1) := by decide +kernel
theorem dX8_isStreet_18 : decode cX8_isStreet 18 = .ok (.iload 4, 2) := by decide +kernel
theorem dX8_isStreet_20 : decode cX8_isStreet 20 = .ok (.aaload, 1) := by decide +kernel
theorem dX8_isStreet_21 : decode cX8_isStreet 21 = .ok (.astore 5, 2) := by decide +kernel
theorem dX8_isStreet_23 : decode cX8_isStreet 23 = .ok (.aload 5, 2) := by decide +kernel
theorem dX8_isStreet_25 : decode cX8_isStreet 25 = .ok (.getfield 54, 3) := by decide +kernel
theorem dX8_isStreet_28 : decode cX8_isStreet 28 = .ok (.iload_n 1, 1) := by decide +kernel
theorem dX8_isStreet_29 : decode cX8_isStreet 29 = .ok (.if_icmp .ne 5, 3) := by decide +kernel
theorem dX8_isStreet_32 : decode cX8_isStreet 32 = .ok (.iconst 0, 1) := by decide +kernel
theorem dX8_isStreet_33 : decode cX8_isStreet 33 = .ok (.ireturn, 1) := by decide +kernel
theorem dX8_isStreet_34 : decode cX8_isStreet 34 = .ok (.iinc 4 1, 3) := by decide +kernel
theorem dX8_isStreet_37 : decode cX8_isStreet 37 = .ok (.goto (-26), 3) := by decide +kernel
theorem dX8_isStreet_40 : decode cX8_isStreet 40 = .ok (.aload_n 0, 1) := by decide +kernel
theorem dX8_isStreet_41 : decode cX8_isStreet 41 = .ok (.getfield 23, 3) := by decide +kernel
theorem dX8_isStreet_44 : decode cX8_isStreet 44 = .ok (.astore_n 2, 1) := by decide +kernel
theorem dX8_isStreet_45 : decode cX8_isStreet 45 = .ok (.aload_n 2, 1) := by decide +kernel
theorem dX8_isStreet_46 : decode cX8_isStreet 46 = .ok (.arraylength, 1) := by decide +kernel
theorem dX8_isStreet_47 : decode cX8_isStreet 47 = .ok (.istore_n 3, 1) := by decide +kernel
theorem dX8_isStreet_48 : decode cX8_isStreet 48 = .ok (.iconst 0, 1) := by decide +kernel
theorem dX8_isStreet_49 : decode cX8_isStreet 49 = .ok (.istore 4, 2) := by decide +kernel
theorem dX8_isStreet_51 : decode cX8_isStreet 51 = .ok (.iload 4, 2) := by decide +kernel
theorem dX8_isStreet_53 : decode cX8_isStreet 53 = .ok (.iload_n 3, 1) := by decide +kernel
theorem dX8_isStreet_54 : decode cX8_isStreet 54 = .ok (.if_icmp .ge 25, 3) := by decide +kernel
theorem dX8_isStreet_57 : decode cX8_isStreet 57 = .ok (.aload_n 2, 1) := by decide +kernel
theorem dX8_isStreet_58 : decode cX8_isStreet 58 = .ok (.iload 4, 2) := by decide +kernel
theorem dX8_isStreet_60 : decode cX8_isStreet 60 = .ok (.aaload, 1) := by decide +kernel
theorem dX8_isStreet_61 : decode cX8_isStreet 61 = .ok (.astore 5, 2) := by decide +kernel
theorem dX8_isStreet_63 : decode cX8_isStreet 63 = .ok (.aload 5, 2) := by decide +kernel
theorem dX8_isStreet_65 : decode cX8_isStreet 65 = .ok (.iconst 0, 1) := by decide +kernel
theorem dX8_isStreet_66 : decode cX8_isStreet 66 = .ok (.iaload, 1) := by decide +kernel
theorem dX8_isStreet_67 : decode cX8_isStreet 67 = .ok (.iload_n 1, 1) := by decide +kernel
theorem dX8_isStreet_68 : decode cX8_isStreet 68 = .ok (.if_icmp .ne 5, 3) := by decide +kernel
theorem dX8_isStreet_71 : decode cX8_isStreet 71 = .ok (.iconst 0, 1) := by decide +kernel
theorem dX8_isStreet_72 : decode cX8_isStreet 72 = .ok (.ireturn, 1) := by decide +kernel
theorem dX8_isStreet_73 : decode cX8_isStreet 73 = .ok (.iinc 4 1, 3) := by decide +kernel
theorem dX8_isStreet_76 : decode cX8_isStreet 76 = .ok (.goto (-25), 3) := by decide +kernel
theorem dX8_isStreet_79 : decode cX8_isStreet 79 = .ok (.iconst 1, 1) := by decide +kernel
theorem dX8_isStreet_80 : decode cX8_isStreet 80 = .ok (.ireturn, 1) := by decide +kernel
theorem dX8_isFree_0 : decode cX8_isFree 0 = .ok (.aload_n 0, 1) := by decide +kernel
theorem dX8_isFree_1 : decode cX8_isFree 1 = .ok (.getfield 17, 3) := by decide +kernel
theorem dX8_isFree_4 : decode cX8_isFree 4 = .ok (.astore_n 2, 1) := by decide +kernel
theorem dX8_isFree_5 : decode cX8_isFree 5 = .ok (.aload_n 2, 1) := by decide +kernel
theorem dX8_isFree_6 : decode cX8_isFree 6 = .ok (.arraylength, 1) := by decide +kernel
theorem dX8_isFree_7 : decode cX8_isFree 7 = .ok (.istore_n 3, 1) := by decide +kernel
theorem dX8_isFree_8 : decode cX8_isFree 8 = .ok (.iconst 0, 1) := by decide +kernel
theorem dX8_isFree_9 : decode cX8_isFree 9 = .ok (.istore 4, 2) := by decide +kernel
theorem dX8_isFree_11 : decode cX8_isFree 11 = .ok (.iload 4, 2) := by decide +kernel
theorem dX8_isFree_13 : decode cX8_isFree 13 = .ok (.iload_n 3, 1) := by decide +kernel
theorem dX8_isFree_14 : decode cX8_isFree 14 = .ok (.if_icmp .ge 43, 3) := by decide +kernel
theorem dX8_isFree_17 : decode cX8_isFree 17 = .ok (.aload_n 2, 1) := by decide +kernel
theorem dX8_isFree_18 : decode cX8_isFree 18 = .ok (.iload 4, 2) := by decide +kernel
theorem dX8_isFree_20 : decode cX8_isFree 20 = .ok (.aaload, 1) := by decide +kernel
theorem dX8_isFree_21 : decode cX8_isFree 21 = .ok (.astore 5, 2) := by decide +kernel
theorem dX8_isFree_23 : decode cX8_isFree 23 = .ok (.aload 5, 2) := by decide +kernel
theorem dX8_isFree_25 : decode cX8_isFree 25 = .ok (.getfield 64, 3) := by decide +kernel
theorem dX8_isFree_28 : decode cX8_isFree 28 = .ok (.iload_n 1, 1) := by decide +kernel
theorem dX8_isFree_29 : decode cX8_isFree 29 = .ok (.if_icmp .eq 20, 3) := by decide +kernel
theorem dX8_isFree_32 : decode cX8_isFree 32 = .ok (.aload 5, 2) := by decide +kernel
theorem dX8_isFree_34 : decode cX8_isFree 34 = .ok (.getfield 71, 3) := by decide +kernel
theorem dX8_isFree_37 : decode cX8_isFree 37 = .ok (.ifCond .le 14, 3) := by decide +kernel
theorem dX8_isFree_40 : decode cX8_isFree 40 = .ok (.aload 5, 2) := by decide +kernel
theorem dX8_isFree_42 : decode cX8_isFree 42 = .ok (.getfield 74, 3) := by decide +kernel
theorem dX8_isFree_45 : decode cX8_isFree 45 = .ok (.iload_n 1, 1) := by decide +kernel
theorem dX8_isFree_46 : decode cX8_isFree 46 = .ok (.if_icmp .ne 5, 3) := by decide +kernel
theorem dX8_isFree_49 : decode cX8_isFree 49 = .ok (.iconst 0, 1) := by decide +kernel
theorem dX8_isFree_50 : decode cX8_isFree 50 = .ok (.ireturn, 1) := by decide +kernel
theorem dX8_isFree_51 : decode cX8_isFree 51 = .ok (.iinc 4 1, 3) := by decide +kernel
theorem dX8_isFree_54 : decode cX8_isFree 54 = .ok (.goto (-43), 3) := by decide +kernel
theorem dX8_isFree_57 : decode cX8_isFree 57 = .ok (.aload_n 0, 1) := by decide +kernel
theorem dX8_isFree_58 : decode cX8_isFree 58 = .ok (.iload_n 1, 1) := by decide +kernel
theorem dX8_isFree_59 : decode cX8_isFree 59 = .ok (.invokevirtual 77, 3) := by decide +kernel
theorem dX8_isFree_62 : decode cX8_isFree 62 = .ok (.ireturn, 1) := by decide +kernel
theorem dX8_way_0 : decode cX8_way 0 = .ok (.sipush 140, 3) := by decide +kernel
theorem dX8_way_3 : decode cX8_way 3 = .ok (.newarray .int, 2) := by decide +kernel
theorem dX8_way_5 : decode cX8_way 5 = .ok (.astore_n 3, 1) := by decide +kernel
theorem dX8_way_6 : decode cX8_way 6 = .ok (.sipush 140, 3) := by decide +kernel
theorem dX8_way_9 : decode cX8_way 9 = .ok (.newarray .int, 2) := by decide +kernel
theorem dX8_way_11 : decode cX8_way 11 = .ok (.astore 4, 2) := by decide +kernel
theorem dX8_way_13 : decode cX8_way 13 = .ok (.iconst 0, 1) := by decide +kernel
theorem dX8_way_14 : decode cX8_way 14 = .ok (.istore 5, 2) := by decide +kernel
theorem dX8_way_16 : decode cX8_way 16 = .ok (.iload 5, 2) := by decide +kernel
theorem dX8_way_18 : decode cX8_way 18 = .ok (.sipush 140, 3) := by decide +kernel
theorem dX8_way_21 : decode cX8_way 21 = .ok (.if_icmp .ge 14, 3) := by decide +kernel
theorem dX8_way_24 : decode cX8_way 24 = .ok (.aload_n 3, 1) := by decide +kernel
theorem dX8_way_25 : decode cX8_way 25 = .ok (.iload 5, 2) := by decide +kernel
theorem dX8_way_27 : decode cX8_way 27 = .ok (.iconst (-1), 1) := by decide +kernel
theorem dX8_way_28 : decode cX8_way 28 = .ok (.iastore, 1) := by decide +kernel
theorem dX8_way_29 : decode cX8_way 29 = .ok (.iinc 5 1, 3) := by decide +kernel
theorem dX8_way_32 : decode cX8_way 32 = .ok (.goto (-16), 3) := by decide +kernel
theorem dX8_way_35 : decode cX8_way 35 = .ok (.aload_n 3, 1) := by decide +kernel
theorem dX8_way_36 : decode cX8_way 36 = .ok (.iload_n 1, 1) := by decide +kernel
theorem dX8_way_37 : decode cX8_way 37 = .ok (.iconst 0, 1) := by decide +kernel
theorem dX8_way_38 : decode cX8_way 38 = .ok (.iastore, 1) := by decide +kernel
theorem dX8_way_39 : decode cX8_way 39 = .ok (.aload 4, 2) := by decide +kernel
theorem dX8_way_41 : decode cX8_way 41 = .ok (.iconst 0, 1) := by decide +kernel
theorem dX8_way_42 : decode cX8_way 42 = .ok (.iload_n 1, 1) := by decide +kernel
theorem dX8_way_43 : decode cX8_way 43 = .ok (.iastore, 1) := by decide +kernel
theorem dX8_way_44 : decode cX8_way 44 = .ok (.iconst 1, 1) := by decide +kernel
theorem dX8_way_45 : decode cX8_way 45 = .ok (.istore 5, 2) := by decide +kernel
theorem dX8_way_47 : decode cX8_way 47 = .ok (.iconst 0, 1) := by decide +kernel
theorem dX8_way_48 : decode cX8_way 48 = .ok (.istore 6, 2) := by decide +kernel
theorem dX8_way_50 : decode cX8_way 50 = .ok (.iload 6, 2) := by decide +kernel
theorem dX8_way_52 : decode cX8_way 52 = .ok (.iload 5, 2) := by decide +kernel
theorem dX8_way_54 : decode cX8_way 54 = .ok (.if_icmp .ge 161, 3) := by decide +kernel
theorem dX8_way_57 : decode cX8_way 57 = .ok (.aload 4, 2) := by decide +kernel
theorem dX8_way_59 : decode cX8_way 59 = .ok (.iload 6, 2) := by decide +kernel
theorem dX8_way_61 : decode cX8_way 61 = .ok (.iaload, 1) := by decide +kernel
theorem dX8_way_62 : decode cX8_way 62 = .ok (.istore 7, 2) := by decide +kernel
theorem dX8_way_64 : decode cX8_way 64 = .ok (.iconst 4, 1) := by decide +kernel
theorem dX8_way_65 : decode cX8_way 65 = .ok (.newarray .int, 2) := by decide +kernel
theorem dX8_way_67 : decode cX8_way 67 = .ok (.dup, 1) := by decide +kernel
theorem dX8_way_68 : decode cX8_way 68 = .ok (.iconst 0, 1) := by decide +kernel
theorem dX8_way_69 : decode cX8_way 69 = .ok (.iload 7, 2) := by decide +kernel
theorem dX8_way_71 : decode cX8_way 71 = .ok (.bipush 14, 2) := by decide +kernel
theorem dX8_way_73 : decode cX8_way 73 = .ok (.isub, 1) := by decide +kernel
theorem dX8_way_74 : decode cX8_way 74 = .ok (.iastore, 1) := by decide +kernel
theorem dX8_way_75 : decode cX8_way 75 = .ok (.dup, 1) := by decide +kernel
theorem dX8_way_76 : decode cX8_way 76 = .ok (.iconst 1, 1) := by decide +kernel
theorem dX8_way_77 : decode cX8_way 77 = .ok (.iload 7, 2) := by decide +kernel
theorem dX8_way_79 : decode cX8_way 79 = .ok (.bipush 14, 2) := by decide +kernel
theorem dX8_way_81 : decode cX8_way 81 = .ok (.irem, 1) := by decide +kernel
theorem dX8_way_82 : decode cX8_way 82 = .ok (.ifCond .ne 7, 3) := by decide +kernel
theorem dX8_way_85 : decode cX8_way 85 = .ok (.iconst (-1), 1) := by decide +kernel
theorem dX8_way_86 : decode cX8_way 86 = .ok (.goto 7, 3) := by decide +kernel
theorem dX8_way_89 : decode cX8_way 89 = .ok (.iload 7, 2) := by decide +kernel
theorem dX8_way_91 : decode cX8_way 91 = .ok (.iconst 1, 1) := by decide +kernel
theorem dX8_way_92 : decode cX8_way 92 = .ok (.isub, 1) := by decide +kernel
theorem dX8_way_93 : decode cX8_way 93 = .ok (.iastore, 1) := by decide +kernel
theorem dX8_way_94 : decode cX8_way 94 = .ok (.dup, 1) := by decide +kernel
theorem dX8_way_95 : decode cX8_way 95 = .ok (.iconst 2, 1) := by decide +kernel
theorem dX8_way_96 : decode cX8_way 96 = .ok (.iload 7, 2) := by decide +kernel
theorem dX8_way_98 : decode cX8_way 98 = .ok (.bipush 14, 2) := by decide +kernel
theorem dX8_way_100 : decode cX8_way 100 = .ok (.irem, 1) := by decide +kernel
theorem dX8_way_101 : decode cX8_way 101 = .ok (.bipush 13, 2) := by decide +kernel
theorem dX8_way_103 : decode cX8_way 103 = .ok (.if_icmp .ne 7, 3) := by decide +kernel
theorem dX8_way_106 : decode cX8_way 106 = .ok (.iconst (-1), 1) := by decide +kernel
theorem dX8_way_107 : decode cX8_way 107 = .ok (.goto 7, 3) := by decide +kernel
theorem dX8_way_110 : decode cX8_way 110 = .ok (.iload 7, 2) := by decide +kernel
theorem dX8_way_112 : decode cX8_way 112 = .ok (.iconst 1, 1) := by decide +kernel
theorem dX8_way_113 : decode cX8_way 113 = .ok (.iadd, 1) := by decide +kernel
theorem dX8_way_114 : decode cX8_way 114 = .ok (.iastore, 1) := by decide +kernel
theorem dX8_way_115 : decode cX8_way 115 = .ok (.dup, 1) := by decide +kernel
theorem dX8_way_116 : decode cX8_way 116 = .ok (.iconst 3, 1) := by decide +kernel
theorem dX8_way_117 : decode cX8_way 117 = .ok (.iload 7, 2) := by decide +kernel
theorem dX8_way_119 : decode cX8_way 119 = .ok (.bipush 14, 2) := by decide +kernel
theorem dX8_way_121 : decode cX8_way 121 = .ok (.iadd, 1) := by decide +kernel
theorem dX8_way_122 : decode cX8_way 122 = .ok (.iastore, 1) := by decide +kernel
theorem dX8_way_123 : decode cX8_way 123 = .ok (.astore 8, 2) := by decide +kernel
theorem dX8_way_125 : decode cX8_way 125 = .ok (.aload 8, 2) := by decide +kernel
theorem dX8_way_127 : decode cX8_way 127 = .ok (.astore 9, 2) := by decide +kernel
theorem dX8_way_129 : decode cX8_way 129 = .ok (.aload 9, 2) := by decide +kernel
theorem dX8_way_131 : decode cX8_way 131 = .ok (.arraylength, 1) := by decide +kernel
theorem dX8_way_132 : decode cX8_way 132 = .ok (.istore 10, 2) := by decide +kernel
theorem dX8_way_134 : decode cX8_way 134 = .ok (.iconst 0, 1) := by decide +kernel
theorem dX8_way_135 : decode cX8_way 135 = .ok (.istore 11, 2) := by decide +kernel
theorem dX8_way_137 : decode cX8_way 137 = .ok (.iload 11, 2) := by decide +kernel
theorem dX8_way_139 : decode cX8_way 139 = .ok (.iload 10, 2) := by decide +kernel
theorem dX8_way_141 : decode cX8_way 141 = .ok (.if_icmp .ge 68, 3) := by decide +kernel
theorem dX8_way_144 : decode cX8_way 144 = .ok (.aload 9, 2) := by decide +kernel
theorem dX8_way_146 : decode cX8_way 146 = .ok (.iload 11, 2) := by decide +kernel
theorem dX8_way_148 : decode cX8_way 148 = .ok (.iaload, 1) := by decide +kernel
theorem dX8_way_149 : decode cX8_way 149 = .ok (.istore 12, 2) := by decide +kernel
theorem dX8_way_151 : decode cX8_way 151 = .ok (.iload 12, 2) := by decide +kernel
theorem dX8_way_153 : decode cX8_way 153 = .ok (.ifCond .lt 50, 3) := by decide +kernel
theorem dX8_way_156 : decode cX8_way 156 = .ok (.iload 12, 2) := by decide +kernel
theorem dX8_way_158 : decode cX8_way 158 = .ok (.sipush 139, 3) := by decide +kernel
theorem dX8_way_161 : decode cX8_way 161 = .ok (.if_icmp .gt 42, 3) := by decide +kernel
theorem dX8_way_164 : decode cX8_way 164 = .ok (.aload_n 3, 1) := by decide +kernel
theorem dX8_way_165 : decode cX8_way 165 = .ok (.iload 12, 2) := by decide +kernel
theorem dX8_way_167 : decode cX8_way 167 = .ok (.iaload, 1) := by decide +kernel
theorem dX8_way_168 : decode cX8_way 168 = .ok (.ifCond .ge 35, 3) := by decide +kernel
theorem dX8_way_171 : decode cX8_way 171 = .ok (.aload_n 0, 1) := by decide +kernel
theorem dX8_way_172 : decode cX8_way 172 = .ok (.iload 12, 2) := by decide +kernel
theorem dX8_way_174 : decode cX8_way 174 = .ok (.invokevirtual 77, 3) := by decide +kernel
theorem dX8_way_177 : decode cX8_way 177 = .ok (.ifCond .ne 6, 3) := by decide +kernel
theorem dX8_way_180 : decode cX8_way 180 = .ok (.goto 23, 3) := by decide +kernel
theorem dX8_way_183 : decode cX8_way 183 = .ok (.aload_n 3, 1) := by decide +kernel
theorem dX8_way_184 : decode cX8_way 184 = .ok (.iload 12, 2) := by decide +kernel
theorem dX8_way_186 : decode cX8_way 186 = .ok (.aload_n 3, 1) := by decide +kernel
theorem dX8_way_187 : decode cX8_way 187 = .ok (.iload 7, 2) := by decide +kernel
theorem dX8_way_189 : decode cX8_way 189 = .ok (.iaload, 1) := by decide +kernel
theorem dX8_way_190 : decode cX8_way 190 = .ok (.iconst 1, 1) := by decide +kernel
theorem dX8_way_191 : decode cX8_way 191 = .ok (.iadd, 1) := by decide +kernel
theorem dX8_way_192 : decode cX8_way 192 = .ok (.iastore, 1) := by decide +kernel
theorem dX8_way_193 : decode cX8_way 193 = .ok (.aload 4, 2) := by decide +kernel
theorem dX8_way_195 : decode cX8_way 195 = .ok (.iload 5, 2) := by decide +kernel
theorem dX8_way_197 : decode cX8_way 197 = .ok (.iload 12, 2) := by decide +kernel
theorem dX8_way_199 : decode cX8_way 199 = .ok (.iastore, 1) := by decide +kernel
theorem dX8_way_200 : decode cX8_way 200 = .ok (.iinc 5 1, 3) := by decide +kernel
theorem dX8_way_203 : decode cX8_way 203 = .ok (.iinc 11 1, 3) := by decide +kernel
theorem dX8_way_206 : decode cX8_way 206 = .ok (.goto (-69), 3) := by decide +kernel
theorem dX8_way_209 : decode cX8_way 209 = .ok (.iinc 6 1, 3) := by decide +kernel
theorem dX8_way_212 : decode cX8_way 212 = .ok (.goto (-162), 3) := by decide +kernel
theorem dX8_way_215 : decode cX8_way 215 = .ok (.aload_n 3, 1) := by decide +kernel
theorem dX8_way_216 : decode cX8_way 216 = .ok (.iload_n 2, 1) := by decide +kernel
theorem dX8_way_217 : decode cX8_way 217 = .ok (.iaload, 1) := by decide +kernel
theorem dX8_way_218 : decode cX8_way 218 = .ok (.ireturn, 1) := by decide +kernel
theorem dX8_source_0 : decode cX8_source 0 = .ok (.aload_n 1, 1) := by decide +kernel
theorem dX8_source_1 : decode cX8_source 1 = .ok (.getfield 71, 3) := by decide +kernel
theorem dX8_source_4 : decode cX8_source 4 = .ok (.ifCond .le 5, 3) := by decide +kernel
theorem dX8_source_7 : decode cX8_source 7 = .ok (.iconst (-1), 1) := by decide +kernel
theorem dX8_source_8 : decode cX8_source 8 = .ok (.ireturn, 1) := by decide +kernel
theorem dX8_source_9 : decode cX8_source 9 = .ok (.iconst 0, 1) := by decide +kernel
theorem dX8_source_10 : decode cX8_source 10 = .ok (.istore_n 2, 1) := by decide +kernel
theorem dX8_source_11 : decode cX8_source 11 = .ok (.iload_n 2, 1) := by decide +kernel
theorem dX8_source_12 : decode cX8_source 12 = .ok (.aload_n 0, 1) := by decide +kernel
theorem dX8_source_13 : decode cX8_source 13 = .ok (.getfield 23, 3) := by decide +kernel
theorem dX8_source_16 : decode cX8_source 16 = .ok (.arraylength, 1) := by decide +kernel
theorem dX8_source_17 : decode cX8_source 17 = .ok (.if_icmp .ge 29, 3) := by decide +kernel
theorem dX8_source_20 : decode cX8_source 20 = .ok (.aload_n 0, 1) := by decide +kernel
theorem dX8_source_21 : decode cX8_source 21 = .ok (.getfield 23, 3) := by decide +kernel
theorem dX8_source_24 : decode cX8_source 24 = .ok (.iload_n 2, 1) := by decide +kernel
theorem dX8_source_25 : decode cX8_source 25 = .ok (.aaload, 1) := by decide +kernel
theorem dX8_source_26 : decode cX8_source 26 = .ok (.iconst 0, 1) := by decide +kernel
theorem dX8_source_27 : decode cX8_source 27 = .ok (.iaload, 1) := by decide +kernel
theorem dX8_source_28 : decode cX8_source 28 = .ok (.aload_n 1, 1) := by decide +kernel
theorem dX8_source_29 : decode cX8_source 29 = .ok (.getfield 64, 3) := by decide +kernel
theorem dX8_source_32 : decode cX8_source 32 = .ok (.invokestatic 81, 3) := by decide +kernel
theorem dX8_source_35 : decode cX8_source 35 = .ok (.ifCond .eq 5, 3) := by decide +kernel
theorem dX8_source_38 : decode cX8_source 38 = .ok (.iload_n 2, 1) := by decide +kernel
theorem dX8_source_39 : decode cX8_source 39 = .ok (.ireturn, 1) := by decide +kernel
theorem dX8_source_40 : decode cX8_source 40 = .ok (.iinc 2 1, 3) := by decide +kernel
theorem dX8_source_43 : decode cX8_source 43 = .ok (.goto (-32), 3) := by decide +kernel
theorem dX8_source_46 : decode cX8_source 46 = .ok (.iconst (-1), 1) := by decide +kernel
theorem dX8_source_47 : decode cX8_source 47 = .ok (.ireturn, 1) := by decide +kernel
theorem dX8_leads_0 : decode cX8_leads 0 = .ok (.iload_n 1, 1) := by decide +kernel
theorem dX8_leads_1 : decode cX8_leads 1 = .ok (.iload_n 2, 1) := by decide +kernel
theorem dX8_leads_2 : decode cX8_leads 2 = .ok (.if_icmp .ne 5, 3) := by decide +kernel
theorem dX8_leads_5 : decode cX8_leads 5 = .ok (.iconst 1, 1) := by decide +kernel
theorem dX8_leads_6 : decode cX8_leads 6 = .ok (.ireturn, 1) := by decide +kernel
theorem dX8_leads_7 : decode cX8_leads 7 = .ok (.aload_n 0, 1) := by decide +kernel
theorem dX8_leads_8 : decode cX8_leads 8 = .ok (.getfield 17, 3) := by decide +kernel
theorem dX8_leads_11 : decode cX8_leads 11 = .ok (.iload_n 1, 1) := by decide +kernel
theorem dX8_leads_12 : decode cX8_leads 12 = .ok (.aaload, 1) := by decide +kernel
theorem dX8_leads_13 : decode cX8_leads 13 = .ok (.getfield 85, 3) := by decide +kernel
theorem dX8_leads_16 : decode cX8_leads 16 = .ok (.istore_n 3, 1) := by decide +kernel
theorem dX8_leads_17 : decode cX8_leads 17 = .ok (.iload_n 3, 1) := by decide +kernel
theorem dX8_leads_18 : decode cX8_leads 18 = .ok (.ifCond .lt 22, 3) := by decide +kernel
theorem dX8_leads_21 : decode cX8_leads 21 = .ok (.iload_n 3, 1) := by decide +kernel
theorem dX8_leads_22 : decode cX8_leads 22 = .ok (.bipush 100, 2) := by decide +kernel
theorem dX8_leads_24 : decode cX8_leads 24 = .ok (.if_icmp .ge 16, 3) := by decide +kernel
theorem dX8_leads_27 : decode cX8_leads 27 = .ok (.aload_n 0, 1) := by decide +kernel
theorem dX8_leads_28 : decode cX8_leads 28 = .ok (.iload_n 3, 1) := by decide +kernel
theorem dX8_leads_29 : decode cX8_leads 29 = .ok (.iload_n 2, 1) := by decide +kernel
theorem dX8_leads_30 : decode cX8_leads 30 = .ok (.invokevirtual 88, 3) := by decide +kernel
theorem dX8_leads_33 : decode cX8_leads 33 = .ok (.ifCond .eq 7, 3) := by decide +kernel
theorem dX8_leads_36 : decode cX8_leads 36 = .ok (.iconst 1, 1) := by decide +kernel
theorem dX8_leads_37 : decode cX8_leads 37 = .ok (.goto 4, 3) := by decide +kernel
theorem dX8_leads_40 : decode cX8_leads 40 = .ok (.iconst 0, 1) := by decide +kernel
theorem dX8_leads_41 : decode cX8_leads 41 = .ok (.ireturn, 1) := by decide +kernel
theorem dX8_heatNear_0 : decode cX8_heatNear 0 = .ok (.iconst 0, 1) := by decide +kernel
theorem dX8_heatNear_1 : decode cX8_heatNear 1 = .ok (.istore_n 2, 1) := by decide +kernel
theorem dX8_heatNear_2 : decode cX8_heatNear 2 = .ok (.aload_n 0, 1) := by decide +kernel
theorem dX8_heatNear_3 : decode cX8_heatNear 3 = .ok (.getfield 9, 3) := by decide +kernel
theorem dX8_heatNear_6 : decode cX8_heatNear 6 = .ok (.astore_n 3, 1) := by decide +kernel
theorem dX8_heatNear_7 : decode cX8_heatNear 7 = .ok (.aload_n 3, 1) := by decide +kernel
theorem dX8_heatNear_8 : decode cX8_heatNear 8 = .ok (.arraylength, 1) := by decide +kernel
theorem dX8_heatNear_9 : decode cX8_heatNear 9 = .ok (.istore 4, 2) := by decide +kernel
theorem dX8_heatNear_11 : decode cX8_heatNear 11 = .ok (.iconst 0, 1) := by decide +kernel
theorem dX8_heatNear_12 : decode cX8_heatNear 12 = .ok (.istore 5, 2) := by decide +kernel
theorem dX8_heatNear_14 : decode cX8_heatNear 14 = .ok (.iload 5, 2) := by decide +kernel
theorem dX8_heatNear_16 : decode cX8_heatNear 16 = .ok (.iload 4, 2) := by decide +kernel
theorem dX8_heatNear_18 : decode cX8_heatNear 18 = .ok (.if_icmp .ge 48, 3) := by decide +kernel
theorem dX8_heatNear_21 : decode cX8_heatNear 21 = .ok (.aload_n 3, 1) := by decide +kernel
theorem dX8_heatNear_22 : decode cX8_heatNear 22 = .ok (.iload 5, 2) := by decide +kernel
theorem dX8_heatNear_24 : decode cX8_heatNear 24 = .ok (.aaload, 1) := by decide +kernel
theorem dX8_heatNear_25 : decode cX8_heatNear 25 = .ok (.astore 6, 2) := by decide +kernel
theorem dX8_heatNear_27 : decode cX8_heatNear 27 = .ok (.iload_n 2, 1) := by decide +kernel
theorem dX8_heatNear_28 : decode cX8_heatNear 28 = .ok (.aload 6, 2) := by decide +kernel
theorem dX8_heatNear_30 : decode cX8_heatNear 30 = .ok (.getfield 91, 3) := by decide +kernel
theorem dX8_heatNear_33 : decode cX8_heatNear 33 = .ok (.iconst 1, 1) := by decide +kernel
theorem dX8_heatNear_34 : decode cX8_heatNear 34 = .ok (.if_icmp .ne 23, 3) := by decide +kernel
theorem dX8_heatNear_37 : decode cX8_heatNear 37 = .ok (.aload 6, 2) := by decide +kernel
theorem dX8_heatNear_39 : decode cX8_heatNear 39 = .ok (.getfield 54, 3) := by decide +kernel
theorem dX8_heatNear_42 : decode cX8_heatNear 42 = .ok (.iload_n 1, 1) := by decide +kernel
theorem dX8_heatNear_43 : decode cX8_heatNear 43 = .ok (.invokestatic 81, 3) := by decide +kernel
theorem dX8_heatNear_46 : decode cX8_heatNear 46 = .ok (.ifCond .eq 11, 3) := by decide +kernel
theorem dX8_heatNear_49 : decode cX8_heatNear 49 = .ok (.aload 6, 2) := by decide +kernel
theorem dX8_heatNear_51 : decode cX8_heatNear 51 = .ok (.getfield 94, 3) := by decide +kernel
theorem dX8_heatNear_54 : decode cX8_heatNear 54 = .ok (.goto 4, 3) := by decide +kernel
theorem dX8_heatNear_57 : decode cX8_heatNear 57 = .ok (.iconst 0, 1) := by decide +kernel
theorem dX8_heatNear_58 : decode cX8_heatNear 58 = .ok (.iadd, 1) := by decide +kernel
theorem dX8_heatNear_59 : decode cX8_heatNear 59 = .ok (.istore_n 2, 1) := by decide +kernel
theorem dX8_heatNear_60 : decode cX8_heatNear 60 = .ok (.iinc 5 1, 3) := by decide +kernel
theorem dX8_heatNear_63 : decode cX8_heatNear 63 = .ok (.goto (-49), 3) := by decide +kernel
theorem dX8_heatNear_66 : decode cX8_heatNear 66 = .ok (.iload_n 2, 1) := by decide +kernel
theorem dX8_heatNear_67 : decode cX8_heatNear 67 = .ok (.ireturn, 1) := by decide +kernel
theorem dX8_gives_0 : decode cX8_gives 0 = .ok (.aload_n 0, 1) := by decide +kernel
theorem dX8_gives_1 : decode cX8_gives 1 = .ok (.getfield 17, 3) := by decide +kernel
theorem dX8_gives_4 : decode cX8_gives 4 = .ok (.arraylength, 1) := by decide +kernel
theorem dX8_gives_5 : decode cX8_gives 5 = .ok (.istore_n 1, 1) := by decide +kernel
theorem dX8_gives_6 : decode cX8_gives 6 = .ok (.iload_n 1, 1) := by decide +kernel
theorem dX8_gives_7 : decode cX8_gives 7 = .ok (.newarray .int, 2) := by decide +kernel
theorem dX8_gives_9 : decode cX8_gives 9 = .ok (.astore_n 2, 1) := by decide +kernel
theorem dX8_gives_10 : decode cX8_gives 10 = .ok (.iload_n 1, 1) := by decide +kernel
theorem dX8_gives_11 : decode cX8_gives 11 = .ok (.newarray .boolean, 2) := by decide +kernel
theorem dX8_gives_13 : decode cX8_gives 13 = .ok (.astore_n 3, 1) := by decide +kernel
theorem dX8_gives_14 : decode cX8_gives 14 = .ok (.iload_n 1, 1) := by decide +kernel
theorem dX8_gives_15 : decode cX8_gives 15 = .ok (.newarray .int, 2) := by decide +kernel
theorem dX8_gives_17 : decode cX8_gives 17 = .ok (.astore 4, 2) := by decide +kernel
theorem dX8_gives_19 : decode cX8_gives 19 = .ok (.iconst 0, 1) := by decide +kernel
theorem dX8_gives_20 : decode cX8_gives 20 = .ok (.istore 5, 2) := by decide +kernel
theorem dX8_gives_22 : decode cX8_gives 22 = .ok (.iload 5, 2) := by decide +kernel
theorem dX8_gives_24 : decode cX8_gives 24 = .ok (.iload_n 1, 1) := by decide +kernel
theorem dX8_gives_25 : decode cX8_gives 25 = .ok (.if_icmp .ge 326, 3) := by decide +kernel
theorem dX8_gives_28 : decode cX8_gives 28 = .ok (.iconst (-1), 1) := by decide +kernel
theorem dX8_gives_29 : decode cX8_gives 29 = .ok (.istore 6, 2) := by decide +kernel
theorem dX8_gives_31 : decode cX8_gives 31 = .ok (.iload_n 1, 1) := by decide +kernel
theorem dX8_gives_32 : decode cX8_gives 32 = .ok (.iconst 1, 1) := by decide +kernel
theorem dX8_gives_33 : decode cX8_gives 33 = .ok (.isub, 1) := by decide +kernel
theorem dX8_gives_34 : decode cX8_gives 34 = .ok (.istore 7, 2) := by decide +kernel
theorem dX8_gives_36 : decode cX8_gives 36 = .ok (.iload 7, 2) := by decide +kernel
theorem dX8_gives_38 : decode cX8_gives 38 = .ok (.ifCond .lt 72, 3) := by decide +kernel
theorem dX8_gives_41 : decode cX8_gives 41 = .ok (.aload_n 3, 1) := by decide +kernel
theorem dX8_gives_42 : decode cX8_gives 42 = .ok (.iload 7, 2) := by decide +kernel
theorem dX8_gives_44 : decode cX8_gives 44 = .ok (.baload, 1) := by decide +kernel
theorem dX8_gives_45 : decode cX8_gives 45 = .ok (.ifCond .ne 7, 3) := by decide +kernel
theorem dX8_gives_48 : decode cX8_gives 48 = .ok (.iconst 1, 1) := by decide +kernel
theorem dX8_gives_49 : decode cX8_gives 49 = .ok (.goto 4, 3) := by decide +kernel
theorem dX8_gives_52 : decode cX8_gives 52 = .ok (.iconst 0, 1) := by decide +kernel
theorem dX8_gives_53 : decode cX8_gives 53 = .ok (.istore 8, 2) := by decide +kernel
theorem dX8_gives_55 : decode cX8_gives 55 = .ok (.iconst 0, 1) := by decide +kernel
theorem dX8_gives_56 : decode cX8_gives 56 = .ok (.istore 9, 2) := by decide +kernel
theorem dX8_gives_58 : decode cX8_gives 58 = .ok (.iload 9, 2) := by decide +kernel
theorem dX8_gives_60 : decode cX8_gives 60 = .ok (.iload_n 1, 1) := by decide +kernel
theorem dX8_gives_61 : decode cX8_gives 61 = .ok (.if_icmp .ge 34, 3) := by decide +kernel
theorem dX8_gives_64 : decode cX8_gives 64 = .ok (.aload_n 3, 1) := by decide +kernel
theorem dX8_gives_65 : decode cX8_gives 65 = .ok (.iload 9, 2) := by decide +kernel
theorem dX8_gives_67 : decode cX8_gives 67 = .ok (.baload, 1) := by decide +kernel
theorem dX8_gives_68 : decode cX8_gives 68 = .ok (.ifCond .ne 21, 3) := by decide +kernel
theorem dX8_gives_71 : decode cX8_gives 71 = .ok (.aload_n 0, 1) := by decide +kernel
theorem dX8_gives_72 : decode cX8_gives 72 = .ok (.getfield 17, 3) := by decide +kernel
theorem dX8_gives_75 : decode cX8_gives 75 = .ok (.iload 9, 2) := by decide +kernel
theorem dX8_gives_77 : decode cX8_gives 77 = .ok (.aaload, 1) := by decide +kernel
theorem dX8_gives_78 : decode cX8_gives 78 = .ok (.getfield 85, 3) := by decide +kernel
theorem dX8_gives_81 : decode cX8_gives 81 = .ok (.iload 7, 2) := by decide +kernel
theorem dX8_gives_83 : decode cX8_gives 83 = .ok (.if_icmp .ne 6, 3) := by decide +kernel
theorem dX8_gives_86 : decode cX8_gives 86 = .ok (.iconst 0, 1) := by decide +kernel
theorem dX8_gives_87 : decode cX8_gives 87 = .ok (.istore 8, 2) := by decide +kernel
theorem dX8_gives_89 : decode cX8_gives 89 = .ok (.iinc 9 1, 3) := by decide +kernel
theorem dX8_gives_92 : decode cX8_gives 92 = .ok (.goto (-34), 3) := by decide +kernel
theorem dX8_gives_95 : decode cX8_gives 95 = .ok (.iload 8, 2) := by decide +kernel
theorem dX8_gives_97 : decode cX8_gives 97 = .ok (.ifCond .eq 7, 3) := by decide +kernel
theorem dX8_gives_100 : decode cX8_gives 100 = .ok (.iload 7, 2) := by decide +kernel
theorem dX8_gives_102 : decode cX8_gives 102 = .ok (.istore 6, 2) := by decide +kernel
theorem dX8_gives_104 : decode cX8_gives 104 = .ok (.iinc 7 (-1), 3) := by decide +kernel
theorem dX8_gives_107 : decode cX8_gives 107 = .ok (.goto (-71), 3) := by decide +kernel
theorem dX8_gives_110 : decode cX8_gives 110 = .ok (.aload_n 3, 1) := by decide +kernel
theorem dX8_gives_111 : decode cX8_gives 111 = .ok (.iload 6, 2) := by decide +kernel
theorem dX8_gives_113 : decode cX8_gives 113 = .ok (.iconst 1, 1) := by decide +kernel
theorem dX8_gives_114 : decode cX8_gives 114 = .ok (.bastore, 1) := by decide +kernel
theorem dX8_gives_115 : decode cX8_gives 115 = .ok (.aload_n 0, 1) := by decide +kernel
theorem dX8_gives_116 : decode cX8_gives 116 = .ok (.getfield 17, 3) := by decide +kernel
theorem dX8_gives_119 : decode cX8_gives 119 = .ok (.iload 6, 2) := by decide +kernel
theorem dX8_gives_121 : decode cX8_gives 121 = .ok (.aaload, 1) := by decide +kernel
theorem dX8_gives_122 : decode cX8_gives 122 = .ok (.astore 7, 2) := by decide +kernel
theorem dX8_gives_124 : decode cX8_gives 124 = .ok (.aload 7, 2) := by decide +kernel
theorem dX8_gives_126 : decode cX8_gives 126 = .ok (.getfield 85, 3) := by decide +kernel
theorem dX8_gives_129 : decode cX8_gives 129 = .ok (.ifCond .ge 6, 3) := by decide +kernel
theorem dX8_gives_132 : decode cX8_gives 132 = .ok (.goto 213, 3) := by decide +kernel
theorem dX8_gives_135 : decode cX8_gives 135 = .ok (.aload 7, 2) := by decide +kernel
theorem dX8_gives_137 : decode cX8_gives 137 = .ok (.invokevirtual 97, 3) := by decide +kernel
theorem dX8_gives_140 : decode cX8_gives 140 = .ok (.istore 8, 2) := by decide +kernel
theorem dX8_gives_142 : decode cX8_gives 142 = .ok (.aload_n 0, 1) := by decide +kernel
theorem dX8_gives_143 : decode cX8_gives 143 = .ok (.aload 7, 2) := by decide +kernel
theorem dX8_gives_145 : decode cX8_gives 145 = .ok (.invokevirtual 101, 3) := by decide +kernel
theorem dX8_gives_148 : decode cX8_gives 148 = .ok (.istore 9, 2) := by decide +kernel
theorem dX8_gives_150 : decode cX8_gives 150 = .ok (.iconst 0, 1) := by decide +kernel
theorem dX8_gives_151 : decode cX8_gives 151 = .ok (.istore 10, 2) := by decide +kernel
theorem dX8_gives_153 : decode cX8_gives 153 = .ok (.iload 9, 2) := by decide +kernel
theorem dX8_gives_155 : decode cX8_gives 155 = .ok (.ifCond .lt 33, 3) := by decide +kernel
theorem dX8_gives_158 : decode cX8_gives 158 = .ok (.iload 8, 2) := by decide +kernel
theorem dX8_gives_160 : decode cX8_gives 160 = .ok (.aload_n 2, 1) := by decide +kernel
theorem dX8_gives_161 : decode cX8_gives 161 = .ok (.iload 6, 2) := by decide +kernel
theorem dX8_gives_163 : decode cX8_gives 163 = .ok (.iaload, 1) := by decide +kernel
theorem dX8_gives_164 : decode cX8_gives 164 = .ok (.if_icmp .le 24, 3) := by decide +kernel
theorem dX8_gives_167 : decode cX8_gives 167 = .ok (.iload 8, 2) := by decide +kernel
theorem dX8_gives_169 : decode cX8_gives 169 = .ok (.aload_n 2, 1) := by decide +kernel
theorem dX8_gives_170 : decode cX8_gives 170 = .ok (.iload 6, 2) := by decide +kernel
theorem dX8_gives_172 : decode cX8_gives 172 = .ok (.iaload, 1) := by decide +kernel
theorem dX8_gives_173 : decode cX8_gives 173 = .ok (.isub, 1) := by decide +kernel
theorem dX8_gives_174 : decode cX8_gives 174 = .ok (.aload_n 0, 1) := by decide +kernel
theorem dX8_gives_175 : decode cX8_gives 175 = .ok (.getfield 23, 3) := by decide +kernel
theorem dX8_gives_178 : decode cX8_gives 178 = .ok (.iload 9, 2) := by decide +kernel
theorem dX8_gives_180 : decode cX8_gives 180 = .ok (.aaload, 1) := by decide +kernel
theorem dX8_gives_181 : decode cX8_gives 181 = .ok (.iconst 1, 1) := by decide +kernel
theorem dX8_gives_182 : decode cX8_gives 182 = .ok (.iaload, 1) := by decide +kernel
theorem dX8_gives_183 : decode cX8_gives 183 = .ok (.invokestatic 105, 3) := by decide +kernel
theorem dX8_gives_186 : decode cX8_gives 186 = .ok (.istore 10, 2) := by decide +kernel
theorem dX8_gives_188 : decode cX8_gives 188 = .ok (.iload 10, 2) := by decide +kernel
theorem dX8_gives_190 : decode cX8_gives 190 = .ok (.ifCond .le 17, 3) := by decide +kernel
theorem dX8_gives_193 : decode cX8_gives 193 = .ok (.aload_n 0, 1) := by decide +kernel
theorem dX8_gives_194 : decode cX8_gives 194 = .ok (.getfield 23, 3) := by decide +kernel
theorem dX8_gives_197 : decode cX8_gives 197 = .ok (.iload 9, 2) := by decide +kernel
theorem dX8_gives_199 : decode cX8_gives 199 = .ok (.aaload, 1) := by decide +kernel
theorem dX8_gives_200 : decode cX8_gives 200 = .ok (.iconst 1, 1) := by decide +kernel
theorem dX8_gives_201 : decode cX8_gives 201 = .ok (.dup2, 1) := by decide +kernel
theorem dX8_gives_202 : decode cX8_gives 202 = .ok (.iaload, 1) := by decide +kernel
theorem dX8_gives_203 : decode cX8_gives 203 = .ok (.iload 10, 2) := by decide +kernel
theorem dX8_gives_205 : decode cX8_gives 205 = .ok (.isub, 1) := by decide +kernel
theorem dX8_gives_206 : decode cX8_gives 206 = .ok (.iastore, 1) := by decide +kernel
theorem dX8_gives_207 : decode cX8_gives 207 = .ok (.aload 4, 2) := by decide +kernel
theorem dX8_gives_209 : decode cX8_gives 209 = .ok (.iload 6, 2) := by decide +kernel
theorem dX8_gives_211 : decode cX8_gives 211 = .ok (.iload 8, 2) := by decide +kernel
theorem dX8_gives_213 : decode cX8_gives 213 = .ok (.aload_n 2, 1) := by decide +kernel
theorem dX8_gives_214 : decode cX8_gives 214 = .ok (.iload 6, 2) := by decide +kernel
theorem dX8_gives_216 : decode cX8_gives 216 = .ok (.iaload, 1) := by decide +kernel
theorem dX8_gives_217 : decode cX8_gives 217 = .ok (.iload 10, 2) := by decide +kernel
theorem dX8_gives_219 : decode cX8_gives 219 = .ok (.iadd, 1) := by decide +kernel
theorem dX8_gives_220 : decode cX8_gives 220 = .ok (.invokestatic 105, 3) := by decide +kernel
theorem dX8_gives_223 : decode cX8_gives 223 = .ok (.iastore, 1) := by decide +kernel
theorem dX8_gives_224 : decode cX8_gives 224 = .ok (.aload 7, 2) := by decide +kernel
theorem dX8_gives_226 : decode cX8_gives 226 = .ok (.getfield 85, 3) := by decide +kernel
theorem dX8_gives_229 : decode cX8_gives 229 = .ok (.bipush 100, 2) := by decide +kernel
theorem dX8_gives_231 : decode cX8_gives 231 = .ok (.if_icmp .ge 19, 3) := by decide +kernel
theorem dX8_gives_234 : decode cX8_gives 234 = .ok (.aload_n 0, 1) := by decide +kernel
theorem dX8_gives_235 : decode cX8_gives 235 = .ok (.getfield 17, 3) := by decide +kernel
theorem dX8_gives_238 : decode cX8_gives 238 = .ok (.aload 7, 2) := by decide +kernel
theorem dX8_gives_240 : decode cX8_gives 240 = .ok (.getfield 85, 3) := by decide +kernel
theorem dX8_gives_243 : decode cX8_gives 243 = .ok (.aaload, 1) := by decide +kernel
theorem dX8_gives_244 : decode cX8_gives 244 = .ok (.getfield 64, 3) := by decide +kernel
theorem dX8_gives_247 : decode cX8_gives 247 = .ok (.goto 19, 3) := by decide +kernel
theorem dX8_gives_250 : decode cX8_gives 250 = .ok (.aload_n 0, 1) := by decide +kernel
theorem dX8_gives_251 : decode cX8_gives 251 = .ok (.getfield 9, 3) := by decide +kernel
theorem dX8_gives_254 : decode cX8_gives 254 = .ok (.aload 7, 2) := by decide +kernel
theorem dX8_gives_256 : decode cX8_gives 256 = .ok (.getfield 85, 3) := by decide +kernel
theorem dX8_gives_259 : decode cX8_gives 259 = .ok (.bipush 100, 2) := by decide +kernel
theorem dX8_gives_261 : decode cX8_gives 261 = .ok (.isub, 1) := by decide +kernel
theorem dX8_gives_262 : decode cX8_gives 262 = .ok (.aaload, 1) := by decide +kernel
theorem dX8_gives_263 : decode cX8_gives 263 = .ok (.getfield 54, 3) := by decide +kernel
theorem dX8_gives_266 : decode cX8_gives 266 = .ok (.istore 11, 2) := by decide +kernel
theorem dX8_gives_268 : decode cX8_gives 268 = .ok (.aload 4, 2) := by decide +kernel
theorem dX8_gives_270 : decode cX8_gives 270 = .ok (.iload 6, 2) := by decide +kernel
theorem dX8_gives_272 : decode cX8_gives 272 = .ok (.iaload, 1) := by decide +kernel
theorem dX8_gives_273 : decode cX8_gives 273 = .ok (.aload 7, 2) := by decide +kernel
theorem dX8_gives_275 : decode cX8_gives 275 = .ok (.getfield 64, 3) := by decide +kernel
theorem dX8_gives_278 : decode cX8_gives 278 = .ok (.iload 11, 2) := by decide +kernel
theorem dX8_gives_280 : decode cX8_gives 280 = .ok (.invokestatic 108, 3) := by decide +kernel
theorem dX8_gives_283 : decode cX8_gives 283 = .ok (.iconst 2, 1) := by decide +kernel
theorem dX8_gives_284 : decode cX8_gives 284 = .ok (.idiv, 1) := by decide +kernel
theorem dX8_gives_285 : decode cX8_gives 285 = .ok (.aload 4, 2) := by decide +kernel
theorem dX8_gives_287 : decode cX8_gives 287 = .ok (.iload 6, 2) := by decide +kernel
theorem dX8_gives_289 : decode cX8_gives 289 = .ok (.iaload, 1) := by decide +kernel
theorem dX8_gives_290 : decode cX8_gives 290 = .ok (.imul, 1) := by decide +kernel
theorem dX8_gives_291 : decode cX8_gives 291 = .ok (.bipush 10, 2) := by decide +kernel
theorem dX8_gives_293 : decode cX8_gives 293 = .ok (.idiv, 1) := by decide +kernel
theorem dX8_gives_294 : decode cX8_gives 294 = .ok (.isub, 1) := by decide +kernel
theorem dX8_gives_295 : decode cX8_gives 295 = .ok (.istore 12, 2) := by decide +kernel
theorem dX8_gives_297 : decode cX8_gives 297 = .ok (.aload 7, 2) := by decide +kernel
theorem dX8_gives_299 : decode cX8_gives 299 = .ok (.getfield 85, 3) := by decide +kernel
theorem dX8_gives_302 : decode cX8_gives 302 = .ok (.bipush 100, 2) := by decide +kernel
theorem dX8_gives_304 : decode cX8_gives 304 = .ok (.if_icmp .ge 18, 3) := by decide +kernel
theorem dX8_gives_307 : decode cX8_gives 307 = .ok (.aload_n 2, 1) := by decide +kernel
theorem dX8_gives_308 : decode cX8_gives 308 = .ok (.aload 7, 2) := by decide +kernel
theorem dX8_gives_310 : decode cX8_gives 310 = .ok (.getfield 85, 3) := by decide +kernel
theorem dX8_gives_313 : decode cX8_gives 313 = .ok (.dup2, 1) := by decide +kernel
theorem dX8_gives_314 : decode cX8_gives 314 = .ok (.iaload, 1) := by decide +kernel
theorem dX8_gives_315 : decode cX8_gives 315 = .ok (.iload 12, 2) := by decide +kernel
theorem dX8_gives_317 : decode cX8_gives 317 = .ok (.iadd, 1) := by decide +kernel
theorem dX8_gives_318 : decode cX8_gives 318 = .ok (.iastore, 1) := by decide +kernel
theorem dX8_gives_319 : decode cX8_gives 319 = .ok (.goto 26, 3) := by decide +kernel
theorem dX8_gives_322 : decode cX8_gives 322 = .ok (.aload_n 0, 1) := by decide +kernel
theorem dX8_gives_323 : decode cX8_gives 323 = .ok (.getfield 9, 3) := by decide +kernel
theorem dX8_gives_326 : decode cX8_gives 326 = .ok (.aload 7, 2) := by decide +kernel
theorem dX8_gives_328 : decode cX8_gives 328 = .ok (.getfield 85, 3) := by decide +kernel
theorem dX8_gives_331 : decode cX8_gives 331 = .ok (.bipush 100, 2) := by decide +kernel
theorem dX8_gives_333 : decode cX8_gives 333 = .ok (.isub, 1) := by decide +kernel
theorem dX8_gives_334 : decode cX8_gives 334 = .ok (.aaload, 1) := by decide +kernel
theorem dX8_gives_335 : decode cX8_gives 335 = .ok (.dup, 1) := by decide +kernel
theorem dX8_gives_336 : decode cX8_gives 336 = .ok (.getfield 111, 3) := by decide +kernel
theorem dX8_gives_339 : decode cX8_gives 339 = .ok (.iload 12, 2) := by decide +kernel
theorem dX8_gives_341 : decode cX8_gives 341 = .ok (.iadd, 1) := by decide +kernel
theorem dX8_gives_342 : decode cX8_gives 342 = .ok (.putfield 111, 3) := by decide +kernel
theorem dX8_gives_345 : decode cX8_gives 345 = .ok (.iinc 5 1, 3) := by decide +kernel
theorem dX8_gives_348 : decode cX8_gives 348 = .ok (.goto (-326), 3) := by decide +kernel
theorem dX8_gives_351 : decode cX8_gives 351 = .ok (.aload 4, 2) := by decide +kernel
theorem dX8_gives_353 : decode cX8_gives 353 = .ok (.areturn, 1) := by decide +kernel
theorem dX8_pass_0 : decode cX8_pass 0 = .ok (.aload_n 0, 1) := by decide +kernel
theorem dX8_pass_1 : decode cX8_pass 1 = .ok (.getfield 17, 3) := by decide +kernel
theorem dX8_pass_4 : decode cX8_pass 4 = .ok (.astore_n 1, 1) := by decide +kernel
theorem dX8_pass_5 : decode cX8_pass 5 = .ok (.aload_n 1, 1) := by decide +kernel
theorem dX8_pass_6 : decode cX8_pass 6 = .ok (.arraylength, 1) := by decide +kernel
theorem dX8_pass_7 : decode cX8_pass 7 = .ok (.istore_n 2, 1) := by decide +kernel
theorem dX8_pass_8 : decode cX8_pass 8 = .ok (.iconst 0, 1) := by decide +kernel
theorem dX8_pass_9 : decode cX8_pass 9 = .ok (.istore_n 3, 1) := by decide +kernel
theorem dX8_pass_10 : decode cX8_pass 10 = .ok (.iload_n 3, 1) := by decide +kernel
theorem dX8_pass_11 : decode cX8_pass 11 = .ok (.iload_n 2, 1) := by decide +kernel
theorem dX8_pass_12 : decode cX8_pass 12 = .ok (.if_icmp .ge 128, 3) := by decide +kernel
theorem dX8_pass_15 : decode cX8_pass 15 = .ok (.aload_n 1, 1) := by decide +kernel
theorem dX8_pass_16 : decode cX8_pass 16 = .ok (.iload_n 3, 1) := by decide +kernel
theorem dX8_pass_17 : decode cX8_pass 17 = .ok (.aaload, 1) := by decide +kernel
theorem dX8_pass_18 : decode cX8_pass 18 = .ok (.astore 4, 2) := by decide +kernel
theorem dX8_pass_20 : decode cX8_pass 20 = .ok (.aload 4, 2) := by decide +kernel
theorem dX8_pass_22 : decode cX8_pass 22 = .ok (.getfield 114, 3) := by decide +kernel
theorem dX8_pass_25 : decode cX8_pass 25 = .ok (.ifCond .le 44, 3) := by decide +kernel
theorem dX8_pass_28 : decode cX8_pass 28 = .ok (.aload 4, 2) := by decide +kernel
theorem dX8_pass_30 : decode cX8_pass 30 = .ok (.dup, 1) := by decide +kernel
theorem dX8_pass_31 : decode cX8_pass 31 = .ok (.getfield 114, 3) := by decide +kernel
theorem dX8_pass_34 : decode cX8_pass 34 = .ok (.iconst 1, 1) := by decide +kernel
theorem dX8_pass_35 : decode cX8_pass 35 = .ok (.isub, 1) := by decide +kernel
theorem dX8_pass_36 : decode cX8_pass 36 = .ok (.putfield 114, 3) := by decide +kernel
theorem dX8_pass_39 : decode cX8_pass 39 = .ok (.aload 4, 2) := by decide +kernel
theorem dX8_pass_41 : decode cX8_pass 41 = .ok (.aload 4, 2) := by decide +kernel
theorem dX8_pass_43 : decode cX8_pass 43 = .ok (.getfield 117, 3) := by decide +kernel
theorem dX8_pass_46 : decode cX8_pass 46 = .ok (.bipush 96, 2) := by decide +kernel
theorem dX8_pass_48 : decode cX8_pass 48 = .ok (.if_icmp .le 8, 3) := by decide +kernel
theorem dX8_pass_51 : decode cX8_pass 51 = .ok (.bipush 100, 2) := by decide +kernel
theorem dX8_pass_53 : decode cX8_pass 53 = .ok (.goto 10, 3) := by decide +kernel
theorem dX8_pass_56 : decode cX8_pass 56 = .ok (.aload 4, 2) := by decide +kernel
theorem dX8_pass_58 : decode cX8_pass 58 = .ok (.getfield 117, 3) := by decide +kernel
theorem dX8_pass_61 : decode cX8_pass 61 = .ok (.iconst 4, 1) := by decide +kernel
theorem dX8_pass_62 : decode cX8_pass 62 = .ok (.iadd, 1) := by decide +kernel
theorem dX8_pass_63 : decode cX8_pass 63 = .ok (.putfield 117, 3) := by decide +kernel
theorem dX8_pass_66 : decode cX8_pass 66 = .ok (.goto 28, 3) := by decide +kernel
theorem dX8_pass_69 : decode cX8_pass 69 = .ok (.aload 4, 2) := by decide +kernel
theorem dX8_pass_71 : decode cX8_pass 71 = .ok (.aload 4, 2) := by decide +kernel
theorem dX8_pass_73 : decode cX8_pass 73 = .ok (.getfield 117, 3) := by decide +kernel
theorem dX8_pass_76 : decode cX8_pass 76 = .ok (.iconst 3, 1) := by decide +kernel
theorem dX8_pass_77 : decode cX8_pass 77 = .ok (.if_icmp .ge 7, 3) := by decide +kernel
theorem dX8_pass_80 : decode cX8_pass 80 = .ok (.iconst 0, 1) := by decide +kernel
theorem dX8_pass_81 : decode cX8_pass 81 = .ok (.goto 10, 3) := by decide +kernel
theorem dX8_pass_84 : decode cX8_pass 84 = .ok (.aload 4, 2) := by decide +kernel
theorem dX8_pass_86 : decode cX8_pass 86 = .ok (.getfield 117, 3) := by decide +kernel
theorem dX8_pass_89 : decode cX8_pass 89 = .ok (.iconst 3, 1) := by decide +kernel
theorem dX8_pass_90 : decode cX8_pass 90 = .ok (.isub, 1) := by decide +kernel
theorem dX8_pass_91 : decode cX8_pass 91 = .ok (.putfield 117, 3) := by decide +kernel
theorem dX8_pass_94 : decode cX8_pass 94 = .ok (.aload 4, 2) := by decide +kernel
theorem dX8_pass_96 : decode cX8_pass 96 = .ok (.getfield 71, 3) := by decide +kernel
theorem dX8_pass_99 : decode cX8_pass 99 = .ok (.ifCond .ne 6, 3) := by decide +kernel
theorem dX8_pass_102 : decode cX8_pass 102 = .ok (.goto 32, 3) := by decide +kernel
theorem dX8_pass_105 : decode cX8_pass 105 = .ok (.aload 4, 2) := by decide +kernel
theorem dX8_pass_107 : decode cX8_pass 107 = .ok (.dup, 1) := by decide +kernel
theorem dX8_pass_108 : decode cX8_pass 108 = .ok (.getfield 71, 3) := by decide +kernel
theorem dX8_pass_111 : decode cX8_pass 111 = .ok (.iconst 1, 1) := by decide +kernel
theorem dX8_pass_112 : decode cX8_pass 112 = .ok (.isub, 1) := by decide +kernel
theorem dX8_pass_113 : decode cX8_pass 113 = .ok (.putfield 71, 3) := by decide +kernel
theorem dX8_pass_116 : decode cX8_pass 116 = .ok (.aload 4, 2) := by decide +kernel
theorem dX8_pass_118 : decode cX8_pass 118 = .ok (.getfield 71, 3) := by decide +kernel
theorem dX8_pass_121 : decode cX8_pass 121 = .ok (.ifCond .ne 13, 3) := by decide +kernel
theorem dX8_pass_124 : decode cX8_pass 124 = .ok (.aload 4, 2) := by decide +kernel
theorem dX8_pass_126 : decode cX8_pass 126 = .ok (.aload 4, 2) := by decide +kernel
theorem dX8_pass_128 : decode cX8_pass 128 = .ok (.getfield 74, 3) := by decide +kernel
theorem dX8_pass_131 : decode cX8_pass 131 = .ok (.putfield 64, 3) := by decide +kernel
theorem dX8_pass_134 : decode cX8_pass 134 = .ok (.iinc 3 1, 3) := by decide +kernel
theorem dX8_pass_137 : decode cX8_pass 137 = .ok (.goto (-127), 3) := by decide +kernel
theorem dX8_pass_140 : decode cX8_pass 140 = .ok (.aload_n 0, 1) := by decide +kernel
theorem dX8_pass_141 : decode cX8_pass 141 = .ok (.getfield 9, 3) := by decide +kernel
theorem dX8_pass_144 : decode cX8_pass 144 = .ok (.astore_n 1, 1) := by decide +kernel
theorem dX8_pass_145 : decode cX8_pass 145 = .ok (.aload_n 1, 1) := by decide +kernel
theorem dX8_pass_146 : decode cX8_pass 146 = .ok (.arraylength, 1) := by decide +kernel
theorem dX8_pass_147 : decode cX8_pass 147 = .ok (.istore_n 2, 1) := by decide +kernel
theorem dX8_pass_148 : decode cX8_pass 148 = .ok (.iconst 0, 1) := by decide +kernel
theorem dX8_pass_149 : decode cX8_pass 149 = .ok (.istore_n 3, 1) := by decide +kernel
theorem dX8_pass_150 : decode cX8_pass 150 = .ok (.iload_n 3, 1) := by decide +kernel
theorem dX8_pass_151 : decode cX8_pass 151 = .ok (.iload_n 2, 1) := by decide +kernel
theorem dX8_pass_152 : decode cX8_pass 152 = .ok (.if_icmp .ge 20, 3) := by decide +kernel
theorem dX8_pass_155 : decode cX8_pass 155 = .ok (.aload_n 1, 1) := by decide +kernel
theorem dX8_pass_156 : decode cX8_pass 156 = .ok (.iload_n 3, 1) := by decide +kernel
theorem dX8_pass_157 : decode cX8_pass 157 = .ok (.aaload, 1) := by decide +kernel
theorem dX8_pass_158 : decode cX8_pass 158 = .ok (.astore 4, 2) := by decide +kernel
theorem dX8_pass_160 : decode cX8_pass 160 = .ok (.aload 4, 2) := by decide +kernel
theorem dX8_pass_162 : decode cX8_pass 162 = .ok (.iconst 0, 1) := by decide +kernel
theorem dX8_pass_163 : decode cX8_pass 163 = .ok (.putfield 111, 3) := by decide +kernel
theorem dX8_pass_166 : decode cX8_pass 166 = .ok (.iinc 3 1, 3) := by decide +kernel
theorem dX8_pass_169 : decode cX8_pass 169 = .ok (.goto (-19), 3) := by decide +kernel
theorem dX8_pass_172 : decode cX8_pass 172 = .ok (.aload_n 0, 1) := by decide +kernel
theorem dX8_pass_173 : decode cX8_pass 173 = .ok (.invokevirtual 120, 3) := by decide +kernel
theorem dX8_pass_176 : decode cX8_pass 176 = .ok (.astore_n 1, 1) := by decide +kernel
theorem dX8_pass_177 : decode cX8_pass 177 = .ok (.iconst 0, 1) := by decide +kernel
theorem dX8_pass_178 : decode cX8_pass 178 = .ok (.istore_n 2, 1) := by decide +kernel
theorem dX8_pass_179 : decode cX8_pass 179 = .ok (.iload_n 2, 1) := by decide +kernel
theorem dX8_pass_180 : decode cX8_pass 180 = .ok (.aload_n 0, 1) := by decide +kernel
theorem dX8_pass_181 : decode cX8_pass 181 = .ok (.getfield 17, 3) := by decide +kernel
theorem dX8_pass_184 : decode cX8_pass 184 = .ok (.arraylength, 1) := by decide +kernel
theorem dX8_pass_185 : decode cX8_pass 185 = .ok (.if_icmp .ge 51, 3) := by decide +kernel
theorem dX8_pass_188 : decode cX8_pass 188 = .ok (.aload_n 0, 1) := by decide +kernel
theorem dX8_pass_189 : decode cX8_pass 189 = .ok (.getfield 17, 3) := by decide +kernel
theorem dX8_pass_192 : decode cX8_pass 192 = .ok (.iload_n 2, 1) := by decide +kernel
theorem dX8_pass_193 : decode cX8_pass 193 = .ok (.aaload, 1) := by decide +kernel
theorem dX8_pass_194 : decode cX8_pass 194 = .ok (.aload_n 1, 1) := by decide +kernel
theorem dX8_pass_195 : decode cX8_pass 195 = .ok (.iload_n 2, 1) := by decide +kernel
theorem dX8_pass_196 : decode cX8_pass 196 = .ok (.iaload, 1) := by decide +kernel
theorem dX8_pass_197 : decode cX8_pass 197 = .ok (.putfield 124, 3) := by decide +kernel
theorem dX8_pass_200 : decode cX8_pass 200 = .ok (.aload_n 1, 1) := by decide +kernel
theorem dX8_pass_201 : decode cX8_pass 201 = .ok (.iload_n 2, 1) := by decide +kernel
theorem dX8_pass_202 : decode cX8_pass 202 = .ok (.iaload, 1) := by decide +kernel
theorem dX8_pass_203 : decode cX8_pass 203 = .ok (.ifCond .le 27, 3) := by decide +kernel
theorem dX8_pass_206 : decode cX8_pass 206 = .ok (.aload_n 0, 1) := by decide +kernel
theorem dX8_pass_207 : decode cX8_pass 207 = .ok (.getfield 17, 3) := by decide +kernel
theorem dX8_pass_210 : decode cX8_pass 210 = .ok (.iload_n 2, 1) := by decide +kernel
theorem dX8_pass_211 : decode cX8_pass 211 = .ok (.aaload, 1) := by decide +kernel
theorem dX8_pass_212 : decode cX8_pass 212 = .ok (.iconst 0, 1) := by decide +kernel
theorem dX8_pass_213 : decode cX8_pass 213 = .ok (.aload_n 0, 1) := by decide +kernel
theorem dX8_pass_214 : decode cX8_pass 214 = .ok (.getfield 17, 3) := by decide +kernel
theorem dX8_pass_217 : decode cX8_pass 217 = .ok (.iload_n 2, 1) := by decide +kernel
theorem dX8_pass_218 : decode cX8_pass 218 = .ok (.aaload, 1) := by decide +kernel
theorem dX8_pass_219 : decode cX8_pass 219 = .ok (.getfield 117, 3) := by decide +kernel
theorem dX8_pass_222 : decode cX8_pass 222 = .ok (.iconst 2, 1) := by decide +kernel
theorem dX8_pass_223 : decode cX8_pass 223 = .ok (.isub, 1) := by decide +kernel
theorem dX8_pass_224 : decode cX8_pass 224 = .ok (.invokestatic 49, 3) := by decide +kernel
theorem dX8_pass_227 : decode cX8_pass 227 = .ok (.putfield 117, 3) := by decide +kernel
theorem dX8_pass_230 : decode cX8_pass 230 = .ok (.iinc 2 1, 3) := by decide +kernel
theorem dX8_pass_233 : decode cX8_pass 233 = .ok (.goto (-54), 3) := by decide +kernel
theorem dX8_pass_236 : decode cX8_pass 236 = .ok (.aload_n 0, 1) := by decide +kernel
theorem dX8_pass_237 : decode cX8_pass 237 = .ok (.getfield 9, 3) := by decide +kernel
theorem dX8_pass_240 : decode cX8_pass 240 = .ok (.astore_n 2, 1) := by decide +kernel
theorem dX8_pass_241 : decode cX8_pass 241 = .ok (.aload_n 2, 1) := by decide +kernel
theorem dX8_pass_242 : decode cX8_pass 242 = .ok (.arraylength, 1) := by decide +kernel
theorem dX8_pass_243 : decode cX8_pass 243 = .ok (.istore_n 3, 1) := by decide +kernel
theorem dX8_pass_244 : decode cX8_pass 244 = .ok (.iconst 0, 1) := by decide +kernel
theorem dX8_pass_245 : decode cX8_pass 245 = .ok (.istore 4, 2) := by decide +kernel
theorem dX8_pass_247 : decode cX8_pass 247 = .ok (.iload 4, 2) := by decide +kernel
theorem dX8_pass_249 : decode cX8_pass 249 = .ok (.iload_n 3, 1) := by decide +kernel
theorem dX8_pass_250 : decode cX8_pass 250 = .ok (.if_icmp .ge 139, 3) := by decide +kernel
theorem dX8_pass_253 : decode cX8_pass 253 = .ok (.aload_n 2, 1) := by decide +kernel
theorem dX8_pass_254 : decode cX8_pass 254 = .ok (.iload 4, 2) := by decide +kernel
theorem dX8_pass_256 : decode cX8_pass 256 = .ok (.aaload, 1) := by decide +kernel
theorem dX8_pass_257 : decode cX8_pass 257 = .ok (.astore 5, 2) := by decide +kernel
theorem dX8_pass_259 : decode cX8_pass 259 = .ok (.aload 5, 2) := by decide +kernel
theorem dX8_pass_261 : decode cX8_pass 261 = .ok (.dup, 1) := by decide +kernel
theorem dX8_pass_262 : decode cX8_pass 262 = .ok (.getfield 127, 3) := by decide +kernel
theorem dX8_pass_265 : decode cX8_pass 265 = .ok (.aload 5, 2) := by decide +kernel
theorem dX8_pass_267 : decode cX8_pass 267 = .ok (.getfield 111, 3) := by decide +kernel
theorem dX8_pass_270 : decode cX8_pass 270 = .ok (.iadd, 1) := by decide +kernel
theorem dX8_pass_271 : decode cX8_pass 271 = .ok (.putfield 127, 3) := by decide +kernel
theorem dX8_pass_274 : decode cX8_pass 274 = .ok (.aload 5, 2) := by decide +kernel
theorem dX8_pass_276 : decode cX8_pass 276 = .ok (.getfield 91, 3) := by decide +kernel
theorem dX8_pass_279 : decode cX8_pass 279 = .ok (.iconst 1, 1) := by decide +kernel
theorem dX8_pass_280 : decode cX8_pass 280 = .ok (.if_icmp .eq 6, 3) := by decide +kernel
theorem dX8_pass_283 : decode cX8_pass 283 = .ok (.goto 100, 3) := by decide +kernel
theorem dX8_pass_286 : decode cX8_pass 286 = .ok (.aload 5, 2) := by decide +kernel
theorem dX8_pass_288 : decode cX8_pass 288 = .ok (.bipush 99, 2) := by decide +kernel
theorem dX8_pass_290 : decode cX8_pass 290 = .ok (.aload 5, 2) := by decide +kernel
theorem dX8_pass_292 : decode cX8_pass 292 = .ok (.getfield 94, 3) := by decide +kernel
theorem dX8_pass_295 : decode cX8_pass 295 = .ok (.aload 5, 2) := by decide +kernel
theorem dX8_pass_297 : decode cX8_pass 297 = .ok (.getfield 57, 3) := by decide +kernel
theorem dX8_pass_300 : decode cX8_pass 300 = .ok (.iadd, 1) := by decide +kernel
theorem dX8_pass_301 : decode cX8_pass 301 = .ok (.aload 5, 2) := by decide +kernel
theorem dX8_pass_303 : decode cX8_pass 303 = .ok (.getfield 111, 3) := by decide +kernel
theorem dX8_pass_306 : decode cX8_pass 306 = .ok (.iconst 4, 1) := by decide +kernel
theorem dX8_pass_307 : decode cX8_pass 307 = .ok (.idiv, 1) := by decide +kernel
theorem dX8_pass_308 : decode cX8_pass 308 = .ok (.isub, 1) := by decide +kernel
theorem dX8_pass_309 : decode cX8_pass 309 = .ok (.invokestatic 105, 3) := by decide +kernel
theorem dX8_pass_312 : decode cX8_pass 312 = .ok (.putfield 94, 3) := by decide +kernel
theorem dX8_pass_315 : decode cX8_pass 315 = .ok (.aload 5, 2) := by decide +kernel
theorem dX8_pass_317 : decode cX8_pass 317 = .ok (.getfield 94, 3) := by decide +kernel
theorem dX8_pass_320 : decode cX8_pass 320 = .ok (.ifCond .gt 18, 3) := by decide +kernel
theorem dX8_pass_323 : decode cX8_pass 323 = .ok (.aload 5, 2) := by decide +kernel
theorem dX8_pass_325 : decode cX8_pass 325 = .ok (.iconst 2, 1) := by decide +kernel
theorem dX8_pass_326 : decode cX8_pass 326 = .ok (.putfield 91, 3) := by decide +kernel
theorem dX8_pass_329 : decode cX8_pass 329 = .ok (.aload 5, 2) := by decide +kernel
theorem dX8_pass_331 : decode cX8_pass 331 = .ok (.iconst 0, 1) := by decide +kernel
theorem dX8_pass_332 : decode cX8_pass 332 = .ok (.putfield 94, 3) := by decide +kernel
theorem dX8_pass_335 : decode cX8_pass 335 = .ok (.goto 48, 3) := by decide +kernel
theorem dX8_pass_338 : decode cX8_pass 338 = .ok (.aload 5, 2) := by decide +kernel
theorem dX8_pass_340 : decode cX8_pass 340 = .ok (.iconst 0, 1) := by decide +kernel
theorem dX8_pass_341 : decode cX8_pass 341 = .ok (.aload 5, 2) := by decide +kernel
theorem dX8_pass_343 : decode cX8_pass 343 = .ok (.getfield 60, 3) := by decide +kernel
theorem dX8_pass_346 : decode cX8_pass 346 = .ok (.iconst 1, 1) := by decide +kernel
theorem dX8_pass_347 : decode cX8_pass 347 = .ok (.isub, 1) := by decide +kernel
theorem dX8_pass_348 : decode cX8_pass 348 = .ok (.aload 5, 2) := by decide +kernel
theorem dX8_pass_350 : decode cX8_pass 350 = .ok (.getfield 94, 3) := by decide +kernel
theorem dX8_pass_353 : decode cX8_pass 353 = .ok (.bipush 25, 2) := by decide +kernel
theorem dX8_pass_355 : decode cX8_pass 355 = .ok (.idiv, 1) := by decide +kernel
theorem dX8_pass_356 : decode cX8_pass 356 = .ok (.isub, 1) := by decide +kernel
theorem dX8_pass_357 : decode cX8_pass 357 = .ok (.invokestatic 49, 3) := by decide +kernel
theorem dX8_pass_360 : decode cX8_pass 360 = .ok (.putfield 60, 3) := by decide +kernel
theorem dX8_pass_363 : decode cX8_pass 363 = .ok (.aload 5, 2) := by decide +kernel
theorem dX8_pass_365 : decode cX8_pass 365 = .ok (.getfield 60, 3) := by decide +kernel
theorem dX8_pass_368 : decode cX8_pass 368 = .ok (.ifCond .ne 15, 3) := by decide +kernel
theorem dX8_pass_371 : decode cX8_pass 371 = .ok (.aload 5, 2) := by decide +kernel
theorem dX8_pass_373 : decode cX8_pass 373 = .ok (.iconst 3, 1) := by decide +kernel
theorem dX8_pass_374 : decode cX8_pass 374 = .ok (.putfield 91, 3) := by decide +kernel
theorem dX8_pass_377 : decode cX8_pass 377 = .ok (.aload 5, 2) := by decide +kernel
theorem dX8_pass_379 : decode cX8_pass 379 = .ok (.iconst 0, 1) := by decide +kernel
theorem dX8_pass_380 : decode cX8_pass 380 = .ok (.putfield 94, 3) := by decide +kernel
theorem dX8_pass_383 : decode cX8_pass 383 = .ok (.iinc 4 1, 3) := by decide +kernel
theorem dX8_pass_386 : decode cX8_pass 386 = .ok (.goto (-139), 3) := by decide +kernel
theorem dX8_pass_389 : decode cX8_pass 389 = .ok (.aload_n 0, 1) := by decide +kernel
theorem dX8_pass_390 : decode cX8_pass 390 = .ok (.getfield 9, 3) := by decide +kernel
theorem dX8_pass_393 : decode cX8_pass 393 = .ok (.arraylength, 1) := by decide +kernel
theorem dX8_pass_394 : decode cX8_pass 394 = .ok (.newarray .boolean, 2) := by decide +kernel
theorem dX8_pass_396 : decode cX8_pass 396 = .ok (.astore_n 2, 1) := by decide +kernel
theorem dX8_pass_397 : decode cX8_pass 397 = .ok (.iconst 0, 1) := by decide +kernel
theorem dX8_pass_398 : decode cX8_pass 398 = .ok (.istore_n 3, 1) := by decide +kernel
theorem dX8_pass_399 : decode cX8_pass 399 = .ok (.iconst 0, 1) := by decide +kernel
theorem dX8_pass_400 : decode cX8_pass 400 = .ok (.istore 4, 2) := by decide +kernel
theorem dX8_pass_402 : decode cX8_pass 402 = .ok (.iload 4, 2) := by decide +kernel
theorem dX8_pass_404 : decode cX8_pass 404 = .ok (.aload_n 0, 1) := by decide +kernel
theorem dX8_pass_405 : decode cX8_pass 405 = .ok (.getfield 9, 3) := by decide +kernel
theorem dX8_pass_408 : decode cX8_pass 408 = .ok (.arraylength, 1) := by decide +kernel
theorem dX8_pass_409 : decode cX8_pass 409 = .ok (.if_icmp .ge 61, 3) := by decide +kernel
theorem dX8_pass_412 : decode cX8_pass 412 = .ok (.aload_n 2, 1) := by decide +kernel
theorem dX8_pass_413 : decode cX8_pass 413 = .ok (.iload 4, 2) := by decide +kernel
theorem dX8_pass_415 : decode cX8_pass 415 = .ok (.aload_n 0, 1) := by decide +kernel
theorem dX8_pass_416 : decode cX8_pass 416 = .ok (.getfield 9, 3) := by decide +kernel
theorem dX8_pass_419 : decode cX8_pass 419 = .ok (.iload 4, 2) := by decide +kernel
theorem dX8_pass_421 : decode cX8_pass 421 = .ok (.aaload, 1) := by decide +kernel
theorem dX8_pass_422 : decode cX8_pass 422 = .ok (.getfield 91, 3) := by decide +kernel
theorem dX8_pass_425 : decode cX8_pass 425 = .ok (.ifCond .ne 37, 3) := by decide +kernel
theorem dX8_pass_428 : decode cX8_pass 428 = .ok (.aload_n 0, 1) := by decide +kernel
theorem dX8_pass_429 : decode cX8_pass 429 = .ok (.aload_n 0, 1) := by decide +kernel
theorem dX8_pass_430 : decode cX8_pass 430 = .ok (.getfield 9, 3) := by decide +kernel
theorem dX8_pass_433 : decode cX8_pass 433 = .ok (.iload 4, 2) := by decide +kernel
theorem dX8_pass_435 : decode cX8_pass 435 = .ok (.aaload, 1) := by decide +kernel
theorem dX8_pass_436 : decode cX8_pass 436 = .ok (.getfield 54, 3) := by decide +kernel
theorem dX8_pass_439 : decode cX8_pass 439 = .ok (.invokevirtual 130, 3) := by decide +kernel
theorem dX8_pass_442 : decode cX8_pass 442 = .ok (.aload_n 0, 1) := by decide +kernel
theorem dX8_pass_443 : decode cX8_pass 443 = .ok (.getfield 9, 3) := by decide +kernel
theorem dX8_pass_446 : decode cX8_pass 446 = .ok (.iload 4, 2) := by decide +kernel
theorem dX8_pass_448 : decode cX8_pass 448 = .ok (.aaload, 1) := by decide +kernel
theorem dX8_pass_449 : decode cX8_pass 449 = .ok (.getfield 111, 3) := by decide +kernel
theorem dX8_pass_452 : decode cX8_pass 452 = .ok (.bipush 40, 2) := by decide +kernel
theorem dX8_pass_454 : decode cX8_pass 454 = .ok (.iadd, 1) := by decide +kernel
theorem dX8_pass_455 : decode cX8_pass 455 = .ok (.if_icmp .lt 7, 3) := by decide +kernel
theorem dX8_pass_458 : decode cX8_pass 458 = .ok (.iconst 1, 1) := by decide +kernel
theorem dX8_pass_459 : decode cX8_pass 459 = .ok (.goto 4, 3) := by decide +kernel
theorem dX8_pass_462 : decode cX8_pass 462 = .ok (.iconst 0, 1) := by decide +kernel
theorem dX8_pass_463 : decode cX8_pass 463 = .ok (.bastore, 1) := by decide +kernel
theorem dX8_pass_464 : decode cX8_pass 464 = .ok (.iinc 4 1, 3) := by decide +kernel
theorem dX8_pass_467 : decode cX8_pass 467 = .ok (.goto (-65), 3) := by decide +kernel
theorem dX8_pass_470 : decode cX8_pass 470 = .ok (.iconst 0, 1) := by decide +kernel
theorem dX8_pass_471 : decode cX8_pass 471 = .ok (.istore 4, 2) := by decide +kernel
theorem dX8_pass_473 : decode cX8_pass 473 = .ok (.iload 4, 2) := by decide +kernel
theorem dX8_pass_475 : decode cX8_pass 475 = .ok (.aload_n 0, 1) := by decide +kernel
theorem dX8_pass_476 : decode cX8_pass 476 = .ok (.getfield 9, 3) := by decide +kernel
theorem dX8_pass_479 : decode cX8_pass 479 = .ok (.arraylength, 1) := by decide +kernel
theorem dX8_pass_480 : decode cX8_pass 480 = .ok (.if_icmp .ge 44, 3) := by decide +kernel
theorem dX8_pass_483 : decode cX8_pass 483 = .ok (.aload_n 2, 1) := by decide +kernel
theorem dX8_pass_484 : decode cX8_pass 484 = .ok (.iload 4, 2) := by decide +kernel
theorem dX8_pass_486 : decode cX8_pass 486 = .ok (.baload, 1) := by decide +kernel
theorem dX8_pass_487 : decode cX8_pass 487 = .ok (.ifCond .ne 6, 3) := by decide +kernel
theorem dX8_pass_490 : decode cX8_pass 490 = .ok (.goto 28, 3) := by decide +kernel
theorem dX8_pass_493 : decode cX8_pass 493 = .ok (.aload_n 0, 1) := by decide +kernel
theorem dX8_pass_494 : decode cX8_pass 494 = .ok (.getfield 9, 3) := by decide +kernel
theorem dX8_pass_497 : decode cX8_pass 497 = .ok (.iload 4, 2) := by decide +kernel
theorem dX8_pass_499 : decode cX8_pass 499 = .ok (.aaload, 1) := by decide +kernel
theorem dX8_pass_500 : decode cX8_pass 500 = .ok (.iconst 1, 1) := by decide +kernel
theorem dX8_pass_501 : decode cX8_pass 501 = .ok (.putfield 91, 3) := by decide +kernel
theorem dX8_pass_504 : decode cX8_pass 504 = .ok (.aload_n 0, 1) := by decide +kernel
theorem dX8_pass_505 : decode cX8_pass 505 = .ok (.getfield 9, 3) := by decide +kernel
theorem dX8_pass_508 : decode cX8_pass 508 = .ok (.iload 4, 2) := by decide +kernel
theorem dX8_pass_510 : decode cX8_pass 510 = .ok (.aaload, 1) := by decide +kernel
theorem dX8_pass_511 : decode cX8_pass 511 = .ok (.iconst 5, 1) := by decide +kernel
theorem dX8_pass_512 : decode cX8_pass 512 = .ok (.putfield 94, 3) := by decide +kernel
theorem dX8_pass_515 : decode cX8_pass 515 = .ok (.iinc 3 1, 3) := by decide +kernel
theorem dX8_pass_518 : decode cX8_pass 518 = .ok (.iinc 4 1, 3) := by decide +kernel
theorem dX8_pass_521 : decode cX8_pass 521 = .ok (.goto (-48), 3) := by decide +kernel
theorem dX8_pass_524 : decode cX8_pass 524 = .ok (.aload_n 0, 1) := by decide +kernel
theorem dX8_pass_525 : decode cX8_pass 525 = .ok (.dup, 1) := by decide +kernel
theorem dX8_pass_526 : decode cX8_pass 526 = .ok (.getfield 28, 3) := by decide +kernel
theorem dX8_pass_529 : decode cX8_pass 529 = .ok (.iconst 1, 1) := by decide +kernel
theorem dX8_pass_530 : decode cX8_pass 530 = .ok (.iadd, 1) := by decide +kernel
theorem dX8_pass_531 : decode cX8_pass 531 = .ok (.putfield 28, 3) := by decide +kernel
theorem dX8_pass_534 : decode cX8_pass 534 = .ok (.iload_n 3, 1) := by decide +kernel
theorem dX8_pass_535 : decode cX8_pass 535 = .ok (.ireturn, 1) := by decide +kernel
theorem dX8_with_0 : decode cX8_with 0 = .ok (.iconst 0, 1) := by decide +kernel
theorem dX8_with_1 : decode cX8_with 1 = .ok (.istore_n 2, 1) := by decide +kernel
theorem dX8_with_2 : decode cX8_with 2 = .ok (.aload_n 0, 1) := by decide +kernel
theorem dX8_with_3 : decode cX8_with 3 = .ok (.getfield 9, 3) := by decide +kernel
theorem dX8_with_6 : decode cX8_with 6 = .ok (.astore_n 3, 1) := by decide +kernel
theorem dX8_with_7 : decode cX8_with 7 = .ok (.aload_n 3, 1) := by decide +kernel
theorem dX8_with_8 : decode cX8_with 8 = .ok (.arraylength, 1) := by decide +kernel
theorem dX8_with_9 : decode cX8_with 9 = .ok (.istore 4, 2) := by decide +kernel
theorem dX8_with_11 : decode cX8_with 11 = .ok (.iconst 0, 1) := by decide +kernel
theorem dX8_with_12 : decode cX8_with 12 = .ok (.istore 5, 2) := by decide +kernel
theorem dX8_with_14 : decode cX8_with 14 = .ok (.iload 5, 2) := by decide +kernel
theorem dX8_with_16 : decode cX8_with 16 = .ok (.iload 4, 2) := by decide +kernel
theorem dX8_with_18 : decode cX8_with 18 = .ok (.if_icmp .ge 32, 3) := by decide +kernel
theorem dX8_with_21 : decode cX8_with 21 = .ok (.aload_n 3, 1) := by decide +kernel
theorem dX8_with_22 : decode cX8_with 22 = .ok (.iload 5, 2) := by decide +kernel
theorem dX8_with_24 : decode cX8_with 24 = .ok (.aaload, 1) := by decide +kernel
theorem dX8_with_25 : decode cX8_with 25 = .ok (.astore 6, 2) := by decide +kernel
theorem dX8_with_27 : decode cX8_with 27 = .ok (.iload_n 2, 1) := by decide +kernel
theorem dX8_with_28 : decode cX8_with 28 = .ok (.aload 6, 2) := by decide +kernel
theorem dX8_with_30 : decode cX8_with 30 = .ok (.getfield 91, 3) := by decide +kernel
theorem dX8_with_33 : decode cX8_with 33 = .ok (.iload_n 1, 1) := by decide +kernel
theorem dX8_with_34 : decode cX8_with 34 = .ok (.if_icmp .ne 7, 3) := by decide +kernel
theorem dX8_with_37 : decode cX8_with 37 = .ok (.iconst 1, 1) := by decide +kernel
theorem dX8_with_38 : decode cX8_with 38 = .ok (.goto 4, 3) := by decide +kernel
theorem dX8_with_41 : decode cX8_with 41 = .ok (.iconst 0, 1) := by decide +kernel
theorem dX8_with_42 : decode cX8_with 42 = .ok (.iadd, 1) := by decide +kernel
theorem dX8_with_43 : decode cX8_with 43 = .ok (.istore_n 2, 1) := by decide +kernel
theorem dX8_with_44 : decode cX8_with 44 = .ok (.iinc 5 1, 3) := by decide +kernel
theorem dX8_with_47 : decode cX8_with 47 = .ok (.goto (-33), 3) := by decide +kernel
theorem dX8_with_50 : decode cX8_with 50 = .ok (.iload_n 2, 1) := by decide +kernel
theorem dX8_with_51 : decode cX8_with 51 = .ok (.ireturn, 1) := by decide +kernel
theorem dJ9_abs_0f7a4_0 : decode cJ9_abs_0f7a4 0 = .ok (.iload_n 0, 1) := by decide +kernel
theorem dJ9_abs_0f7a4_1 : decode cJ9_abs_0f7a4 1 = .ok (.ifCond .ge 8, 3) := by decide +kernel
theorem dJ9_abs_0f7a4_4 : decode cJ9_abs_0f7a4 4 = .ok (.iload_n 0, 1) := by decide +kernel
theorem dJ9_abs_0f7a4_5 : decode cJ9_abs_0f7a4 5 = .ok (.ineg, 1) := by decide +kernel
theorem dJ9_abs_0f7a4_6 : decode cJ9_abs_0f7a4 6 = .ok (.goto 4, 3) := by decide +kernel
theorem dJ9_abs_0f7a4_9 : decode cJ9_abs_0f7a4 9 = .ok (.iload_n 0, 1) := by decide +kernel
theorem dJ9_abs_0f7a4_10 : decode cJ9_abs_0f7a4 10 = .ok (.ireturn, 1) := by decide +kernel
theorem dJ9_max_7cf53_0 : decode cJ9_max_7cf53 0 = .ok (.iload_n 0, 1) := by decide +kernel
theorem dJ9_max_7cf53_1 : decode cJ9_max_7cf53 1 = .ok (.iload_n 1, 1) := by decide +kernel
theorem dJ9_max_7cf53_2 : decode cJ9_max_7cf53 2 = .ok (.if_icmp .lt 7, 3) := by decide +kernel
theorem dJ9_max_7cf53_5 : decode cJ9_max_7cf53 5 = .ok (.iload_n 0, 1) := by decide +kernel
theorem dJ9_max_7cf53_6 : decode cJ9_max_7cf53 6 = .ok (.goto 4, 3) := by decide +kernel
theorem dJ9_max_7cf53_9 : decode cJ9_max_7cf53 9 = .ok (.iload_n 1, 1) := by decide +kernel
theorem dJ9_max_7cf53_10 : decode cJ9_max_7cf53 10 = .ok (.ireturn, 1) := by decide +kernel
theorem dJ9_min_7cf53_0 : decode cJ9_min_7cf53 0 = .ok (.iload_n 0, 1) := by decide +kernel
theorem dJ9_min_7cf53_1 : decode cJ9_min_7cf53 1 = .ok (.iload_n 1, 1) := by decide +kernel
theorem dJ9_min_7cf53_2 : decode cJ9_min_7cf53 2 = .ok (.if_icmp .gt 7, 3) := by decide +kernel
theorem dJ9_min_7cf53_5 : decode cJ9_min_7cf53 5 = .ok (.iload_n 0, 1) := by decide +kernel
theorem dJ9_min_7cf53_6 : decode cJ9_min_7cf53 6 = .ok (.goto 4, 3) := by decide +kernel
theorem dJ9_min_7cf53_9 : decode cJ9_min_7cf53 9 = .ok (.iload_n 1, 1) := by decide +kernel
theorem dJ9_min_7cf53_10 : decode cJ9_min_7cf53 10 = .ok (.ireturn, 1) := by decide +kernel
theorem dJxa1e45_init_da8c8_0 : decode cJxa1e45_init_da8c8 0 = .ok (.aload_n 0, 1) := by decide +kernel
theorem dJxa1e45_init_da8c8_1 : decode cJxa1e45_init_da8c8 1 = .ok (.invokespecial 1, 3) := by decide +kernel
theorem dJxa1e45_init_da8c8_4 : decode cJxa1e45_init_da8c8 4 = .ok (.return_, 1) := by decide +kernel
theorem dJxc12de_init_da8c8_0 : decode cJxc12de_init_da8c8 0 = .ok (.aload_n 0, 1) := by decide +kernel
theorem dJxc12de_init_da8c8_1 : decode cJxc12de_init_da8c8 1 = .ok (.invokespecial 1, 3) := by decide +kernel
theorem dJxc12de_init_da8c8_4 : decode cJxc12de_init_da8c8 4 = .ok (.aload_n 0, 1) := by decide +kernel
theorem dJxc12de_init_da8c8_5 : decode cJxc12de_init_da8c8 5 = .ok (.iconst 0, 1) := by decide +kernel
theorem dJxc12de_init_da8c8_6 : decode cJxc12de_init_da8c8 6 = .ok (.putfield 7, 3) := by decide +kernel
theorem dJxc12de_init_da8c8_9 : decode cJxc12de_init_da8c8 9 = .ok (.return_, 1) := by decide +kernel
theorem dJx4a65c_init_da8c8_0 : decode cJx4a65c_init_da8c8 0 = .ok (.aload_n 0, 1) := by decide +kernel
theorem dJx4a65c_init_da8c8_1 : decode cJx4a65c_init_da8c8 1 = .ok (.invokespecial 1, 3) := by decide +kernel
theorem dJx4a65c_init_da8c8_4 : decode cJx4a65c_init_da8c8 4 = .ok (.aload_n 0, 1) := by decide +kernel
theorem dJx4a65c_init_da8c8_5 : decode cJx4a65c_init_da8c8 5 = .ok (.getstatic 39, 3) := by decide +kernel
theorem dJx4a65c_init_da8c8_8 : decode cJx4a65c_init_da8c8 8 = .ok (.putfield 9, 3) := by decide +kernel
theorem dJx4a65c_init_da8c8_11 : decode cJx4a65c_init_da8c8 11 = .ok (.return_, 1) := by decide +kernel
theorem dJx4a65c_grow_92f84_0 : decode cJx4a65c_grow_92f84 0 = .ok (.aload_n 0, 1) := by decide +kernel
theorem dJx4a65c_grow_92f84_1 : decode cJx4a65c_grow_92f84 1 = .ok (.getfield 9, 3) := by decide +kernel
theorem dJx4a65c_grow_92f84_4 : decode cJx4a65c_grow_92f84 4 = .ok (.arraylength, 1) := by decide +kernel
theorem dJx4a65c_grow_92f84_5 : decode cJx4a65c_grow_92f84 5 = .ok (.istore_n 2, 1) := by decide +kernel
theorem dJx4a65c_grow_92f84_6 : decode cJx4a65c_grow_92f84 6 = .ok (.iload_n 2, 1) := by decide +kernel
theorem dJx4a65c_grow_92f84_7 : decode cJx4a65c_grow_92f84 7 = .ok (.ifCond .gt 13, 3) := by decide +kernel
theorem dJx4a65c_grow_92f84_10 : decode cJx4a65c_grow_92f84 10 = .ok (.aload_n 0, 1) := by decide +kernel
theorem dJx4a65c_grow_92f84_11 : decode cJx4a65c_grow_92f84 11 = .ok (.getfield 9, 3) := by decide +kernel
theorem dJx4a65c_grow_92f84_14 : decode cJx4a65c_grow_92f84 14 = .ok (.getstatic 39, 3) := by decide +kernel
theorem dJx4a65c_grow_92f84_17 : decode cJx4a65c_grow_92f84 17 = .ok (.if_acmp .eq 28, 3) := by decide +kernel
theorem dJx4a65c_grow_92f84_20 : decode cJx4a65c_grow_92f84 20 = .ok (.iload_n 2, 1) := by decide +kernel
theorem dJx4a65c_grow_92f84_21 : decode cJx4a65c_grow_92f84 21 = .ok (.iload_n 1, 1) := by decide +kernel
theorem dJx4a65c_grow_92f84_22 : decode cJx4a65c_grow_92f84 22 = .ok (.iload_n 2, 1) := by decide +kernel
theorem dJx4a65c_grow_92f84_23 : decode cJx4a65c_grow_92f84 23 = .ok (.isub, 1) := by decide +kernel
theorem dJx4a65c_grow_92f84_24 : decode cJx4a65c_grow_92f84 24 = .ok (.iload_n 2, 1) := by decide +kernel
theorem dJx4a65c_grow_92f84_25 : decode cJx4a65c_grow_92f84 25 = .ok (.iconst 1, 1) := by decide +kernel
theorem dJx4a65c_grow_92f84_26 : decode cJx4a65c_grow_92f84 26 = .ok (.ishr, 1) := by decide +kernel
theorem dJx4a65c_grow_92f84_27 : decode cJx4a65c_grow_92f84 27 = .ok (.invokestatic 73, 3) := by decide +kernel
theorem dJx4a65c_grow_92f84_30 : decode cJx4a65c_grow_92f84 30 = .ok (.istore_n 3, 1) := by decide +kernel
theorem dJx4a65c_grow_92f84_31 : decode cJx4a65c_grow_92f84 31 = .ok (.aload_n 0, 1) := by decide +kernel
theorem dJx4a65c_grow_92f84_32 : decode cJx4a65c_grow_92f84 32 = .ok (.aload_n 0, 1) := by decide +kernel
theorem dJx4a65c_grow_92f84_33 : decode cJx4a65c_grow_92f84 33 = .ok (.getfield 9, 3) := by decide +kernel
theorem dJx4a65c_grow_92f84_36 : decode cJx4a65c_grow_92f84 36 = .ok (.iload_n 3, 1) := by decide +kernel
theorem dJx4a65c_grow_92f84_37 : decode cJx4a65c_grow_92f84 37 = .ok (.invokestatic 66, 3) := by decide +kernel
theorem dJx4a65c_grow_92f84_40 : decode cJx4a65c_grow_92f84 40 = .ok (.dup_x1, 1) := by decide +kernel
theorem dJx4a65c_grow_92f84_41 : decode cJx4a65c_grow_92f84 41 = .ok (.putfield 9, 3) := by decide +kernel
theorem dJx4a65c_grow_92f84_44 : decode cJx4a65c_grow_92f84 44 = .ok (.areturn, 1) := by decide +kernel
theorem dJx4a65c_grow_92f84_45 : decode cJx4a65c_grow_92f84 45 = .ok (.aload_n 0, 1) := by decide +kernel
theorem dJx4a65c_grow_92f84_46 : decode cJx4a65c_grow_92f84 46 = .ok (.bipush 10, 2) := by decide +kernel
theorem dJx4a65c_grow_92f84_48 : decode cJx4a65c_grow_92f84 48 = .ok (.iload_n 1, 1) := by decide +kernel
theorem dJx4a65c_grow_92f84_49 : decode cJx4a65c_grow_92f84 49 = .ok (.invokestatic 79, 3) := by decide +kernel
theorem dJx4a65c_grow_92f84_52 : decode cJx4a65c_grow_92f84 52 = .ok (.anewarray 7, 3) := by decide +kernel
theorem dJx4a65c_grow_92f84_55 : decode cJx4a65c_grow_92f84 55 = .ok (.dup_x1, 1) := by decide +kernel
theorem dJx4a65c_grow_92f84_56 : decode cJx4a65c_grow_92f84 56 = .ok (.putfield 9, 3) := by decide +kernel
theorem dJx4a65c_grow_92f84_59 : decode cJx4a65c_grow_92f84 59 = .ok (.areturn, 1) := by decide +kernel
theorem dJx4a65c_grow_d5877_0 : decode cJx4a65c_grow_d5877 0 = .ok (.aload_n 0, 1) := by decide +kernel
theorem dJx4a65c_grow_d5877_1 : decode cJx4a65c_grow_d5877 1 = .ok (.aload_n 0, 1) := by decide +kernel
theorem dJx4a65c_grow_d5877_2 : decode cJx4a65c_grow_d5877 2 = .ok (.getfield 48, 3) := by decide +kernel
theorem dJx4a65c_grow_d5877_5 : decode cJx4a65c_grow_d5877 5 = .ok (.iconst 1, 1) := by decide +kernel
theorem dJx4a65c_grow_d5877_6 : decode cJx4a65c_grow_d5877 6 = .ok (.iadd, 1) := by decide +kernel
theorem dJx4a65c_grow_d5877_7 : decode cJx4a65c_grow_d5877 7 = .ok (.invokevirtual 69, 3) := by decide +kernel
theorem dJx4a65c_grow_d5877_10 : decode cJx4a65c_grow_d5877 10 = .ok (.areturn, 1) := by decide +kernel
theorem dJx4a65c_size_8abf5_0 : decode cJx4a65c_size_8abf5 0 = .ok (.aload_n 0, 1) := by decide +kernel
theorem dJx4a65c_size_8abf5_1 : decode cJx4a65c_size_8abf5 1 = .ok (.getfield 48, 3) := by decide +kernel
theorem dJx4a65c_size_8abf5_4 : decode cJx4a65c_size_8abf5 4 = .ok (.ireturn, 1) := by decide +kernel
theorem dJx4a65c_elementData_915e3_0 : decode cJx4a65c_elementData_915e3 0 = .ok (.aload_n 0, 1) := by decide +kernel
theorem dJx4a65c_elementData_915e3_1 : decode cJx4a65c_elementData_915e3 1 = .ok (.getfield 9, 3) := by decide +kernel
theorem dJx4a65c_elementData_915e3_4 : decode cJx4a65c_elementData_915e3 4 = .ok (.iload_n 1, 1) := by decide +kernel
theorem dJx4a65c_elementData_915e3_5 : decode cJx4a65c_elementData_915e3 5 = .ok (.aaload, 1) := by decide +kernel
theorem dJx4a65c_elementData_915e3_6 : decode cJx4a65c_elementData_915e3 6 = .ok (.areturn, 1) := by decide +kernel
theorem dJx4a65c_get_915e3_0 : decode cJx4a65c_get_915e3 0 = .ok (.iload_n 1, 1) := by decide +kernel
theorem dJx4a65c_get_915e3_1 : decode cJx4a65c_get_915e3 1 = .ok (.aload_n 0, 1) := by decide +kernel
theorem dJx4a65c_get_915e3_2 : decode cJx4a65c_get_915e3 2 = .ok (.getfield 48, 3) := by decide +kernel
theorem dJx4a65c_get_915e3_5 : decode cJx4a65c_get_915e3 5 = .ok (.invokestatic 118, 3) := by decide +kernel
theorem dJx4a65c_get_915e3_8 : decode cJx4a65c_get_915e3 8 = .ok (.pop, 1) := by decide +kernel
theorem dJx4a65c_get_915e3_9 : decode cJx4a65c_get_915e3 9 = .ok (.aload_n 0, 1) := by decide +kernel
theorem dJx4a65c_get_915e3_10 : decode cJx4a65c_get_915e3 10 = .ok (.iload_n 1, 1) := by decide +kernel
theorem dJx4a65c_get_915e3_11 : decode cJx4a65c_get_915e3 11 = .ok (.invokevirtual 123, 3) := by decide +kernel
theorem dJx4a65c_get_915e3_14 : decode cJx4a65c_get_915e3 14 = .ok (.areturn, 1) := by decide +kernel
theorem dJx4a65c_add_72be8_0 : decode cJx4a65c_add_72be8 0 = .ok (.iload_n 3, 1) := by decide +kernel
theorem dJx4a65c_add_72be8_1 : decode cJx4a65c_add_72be8 1 = .ok (.aload_n 2, 1) := by decide +kernel
theorem dJx4a65c_add_72be8_2 : decode cJx4a65c_add_72be8 2 = .ok (.arraylength, 1) := by decide +kernel
theorem dJx4a65c_add_72be8_3 : decode cJx4a65c_add_72be8 3 = .ok (.if_icmp .ne 8, 3) := by decide +kernel
theorem dJx4a65c_add_72be8_6 : decode cJx4a65c_add_72be8 6 = .ok (.aload_n 0, 1) := by decide +kernel
theorem dJx4a65c_add_72be8_7 : decode cJx4a65c_add_72be8 7 = .ok (.invokevirtual 129, 3) := by decide +kernel
theorem dJx4a65c_add_72be8_10 : decode cJx4a65c_add_72be8 10 = .ok (.astore_n 2, 1) := by decide +kernel
theorem dJx4a65c_add_72be8_11 : decode cJx4a65c_add_72be8 11 = .ok (.aload_n 2, 1) := by decide +kernel
theorem dJx4a65c_add_72be8_12 : decode cJx4a65c_add_72be8 12 = .ok (.iload_n 3, 1) := by decide +kernel
theorem dJx4a65c_add_72be8_13 : decode cJx4a65c_add_72be8 13 = .ok (.aload_n 1, 1) := by decide +kernel
theorem dJx4a65c_add_72be8_14 : decode cJx4a65c_add_72be8 14 = .ok (.aastore, 1) := by decide +kernel
theorem dJx4a65c_add_72be8_15 : decode cJx4a65c_add_72be8 15 = .ok (.aload_n 0, 1) := by decide +kernel
theorem dJx4a65c_add_72be8_16 : decode cJx4a65c_add_72be8 16 = .ok (.iload_n 3, 1) := by decide +kernel
theorem dJx4a65c_add_72be8_17 : decode cJx4a65c_add_72be8 17 = .ok (.iconst 1, 1) := by decide +kernel
theorem dJx4a65c_add_72be8_18 : decode cJx4a65c_add_72be8 18 = .ok (.iadd, 1) := by decide +kernel
theorem dJx4a65c_add_72be8_19 : decode cJx4a65c_add_72be8 19 = .ok (.putfield 48, 3) := by decide +kernel
theorem dJx4a65c_add_72be8_22 : decode cJx4a65c_add_72be8 22 = .ok (.return_, 1) := by decide +kernel
theorem dJx4a65c_add_9ea2d_0 : decode cJx4a65c_add_9ea2d 0 = .ok (.aload_n 0, 1) := by decide +kernel
theorem dJx4a65c_add_9ea2d_1 : decode cJx4a65c_add_9ea2d 1 = .ok (.dup, 1) := by decide +kernel
theorem dJx4a65c_add_9ea2d_2 : decode cJx4a65c_add_9ea2d 2 = .ok (.getfield 63, 3) := by decide +kernel
theorem dJx4a65c_add_9ea2d_5 : decode cJx4a65c_add_9ea2d 5 = .ok (.iconst 1, 1) := by decide +kernel
theorem dJx4a65c_add_9ea2d_6 : decode cJx4a65c_add_9ea2d 6 = .ok (.iadd, 1) := by decide +kernel
theorem dJx4a65c_add_9ea2d_7 : decode cJx4a65c_add_9ea2d 7 = .ok (.putfield 63, 3) := by decide +kernel
theorem dJx4a65c_add_9ea2d_10 : decode cJx4a65c_add_9ea2d 10 = .ok (.aload_n 0, 1) := by decide +kernel
theorem dJx4a65c_add_9ea2d_11 : decode cJx4a65c_add_9ea2d 11 = .ok (.aload_n 1, 1) := by decide +kernel
theorem dJx4a65c_add_9ea2d_12 : decode cJx4a65c_add_9ea2d 12 = .ok (.aload_n 0, 1) := by decide +kernel
theorem dJx4a65c_add_9ea2d_13 : decode cJx4a65c_add_9ea2d 13 = .ok (.getfield 9, 3) := by decide +kernel
theorem dJx4a65c_add_9ea2d_16 : decode cJx4a65c_add_9ea2d 16 = .ok (.aload_n 0, 1) := by decide +kernel
theorem dJx4a65c_add_9ea2d_17 : decode cJx4a65c_add_9ea2d 17 = .ok (.getfield 48, 3) := by decide +kernel
theorem dJx4a65c_add_9ea2d_20 : decode cJx4a65c_add_9ea2d 20 = .ok (.invokevirtual 131, 3) := by decide +kernel
theorem dJx4a65c_add_9ea2d_23 : decode cJx4a65c_add_9ea2d 23 = .ok (.iconst 1, 1) := by decide +kernel
theorem dJx4a65c_add_9ea2d_24 : decode cJx4a65c_add_9ea2d 24 = .ok (.ireturn, 1) := by decide +kernel
theorem dJ7_fill_53178_0 : decode cJ7_fill_53178 0 = .ok (.iconst 0, 1) := by decide +kernel
theorem dJ7_fill_53178_1 : decode cJ7_fill_53178 1 = .ok (.istore_n 2, 1) := by decide +kernel
theorem dJ7_fill_53178_2 : decode cJ7_fill_53178 2 = .ok (.aload_n 0, 1) := by decide +kernel
theorem dJ7_fill_53178_3 : decode cJ7_fill_53178 3 = .ok (.arraylength, 1) := by decide +kernel
theorem dJ7_fill_53178_4 : decode cJ7_fill_53178 4 = .ok (.istore_n 3, 1) := by decide +kernel
theorem dJ7_fill_53178_5 : decode cJ7_fill_53178 5 = .ok (.iload_n 2, 1) := by decide +kernel
theorem dJ7_fill_53178_6 : decode cJ7_fill_53178 6 = .ok (.iload_n 3, 1) := by decide +kernel
theorem dJ7_fill_53178_7 : decode cJ7_fill_53178 7 = .ok (.if_icmp .ge 13, 3) := by decide +kernel
theorem dJ7_fill_53178_10 : decode cJ7_fill_53178 10 = .ok (.aload_n 0, 1) := by decide +kernel
theorem dJ7_fill_53178_11 : decode cJ7_fill_53178 11 = .ok (.iload_n 2, 1) := by decide +kernel
theorem dJ7_fill_53178_12 : decode cJ7_fill_53178 12 = .ok (.iload_n 1, 1) := by decide +kernel
theorem dJ7_fill_53178_13 : decode cJ7_fill_53178 13 = .ok (.iastore, 1) := by decide +kernel
theorem dJ7_fill_53178_14 : decode cJ7_fill_53178 14 = .ok (.iinc 2 1, 3) := by decide +kernel
theorem dJ7_fill_53178_17 : decode cJ7_fill_53178 17 = .ok (.goto (-12), 3) := by decide +kernel
theorem dJ7_fill_53178_20 : decode cJ7_fill_53178 20 = .ok (.return_, 1) := by decide +kernel
theorem dJ7_copyOf_1904c_0 : decode cJ7_copyOf_1904c 0 = .ok (.aload_n 0, 1) := by decide +kernel
theorem dJ7_copyOf_1904c_1 : decode cJ7_copyOf_1904c 1 = .ok (.iload_n 1, 1) := by decide +kernel
theorem dJ7_copyOf_1904c_2 : decode cJ7_copyOf_1904c 2 = .ok (.aload_n 0, 1) := by decide +kernel
theorem dJ7_copyOf_1904c_3 : decode cJ7_copyOf_1904c 3 = .ok (.invokevirtual 86, 3) := by decide +kernel
theorem dJ7_copyOf_1904c_6 : decode cJ7_copyOf_1904c 6 = .ok (.invokestatic 300, 3) := by decide +kernel
theorem dJ7_copyOf_1904c_9 : decode cJ7_copyOf_1904c 9 = .ok (.areturn, 1) := by decide +kernel
theorem dJ7_copyOf_6403c_0 : decode cJ7_copyOf_6403c 0 = .ok (.aload_n 2, 1) := by decide +kernel
theorem dJ7_copyOf_6403c_1 : decode cJ7_copyOf_6403c 1 = .ok (.ldc 110, 2) := by decide +kernel
theorem dJ7_copyOf_6403c_3 : decode cJ7_copyOf_6403c 3 = .ok (.if_acmp .ne 10, 3) := by decide +kernel
theorem dJ7_copyOf_6403c_6 : decode cJ7_copyOf_6403c 6 = .ok (.iload_n 1, 1) := by decide +kernel
theorem dJ7_copyOf_6403c_7 : decode cJ7_copyOf_6403c 7 = .ok (.anewarray 2, 3) := by decide +kernel
