theorem dX5_stoke_2 : decode cX5_stoke 2 = .ok (.invokevirtual 120, 3) := by decide +kernel
theorem dX5_stoke_5 : decode cX5_stoke 5 = .ok (.iload_n 2, 1) := by decide +kernel
theorem dX5_stoke_6 : decode cX5_stoke 6 = .ok (.iconst 1, 1) := by decide +kernel
theorem dX5_stoke_7 : decode cX5_stoke 7 = .ok (.bipush 100, 2) := by decide +kernel
theorem dX5_stoke_9 : decode cX5_stoke 9 = .ok (.invokestatic 30, 3) := by decide +kernel
theorem dX5_stoke_12 : decode cX5_stoke 12 = .ok (.aload_n 0, 1) := by decide +kernel
theorem dX5_stoke_13 : decode cX5_stoke 13 = .ok (.getfield 19, 3) := by decide +kernel
theorem dX5_stoke_16 : decode cX5_stoke 16 = .ok (.getfield 114, 3) := by decide +kernel
theorem dX5_stoke_19 : decode cX5_stoke 19 = .ok (.iload_n 1, 1) := by decide +kernel
theorem dX5_stoke_20 : decode cX5_stoke 20 = .ok (.invokevirtual 78, 3) := by decide +kernel
theorem dX5_stoke_23 : decode cX5_stoke 23 = .ok (.checkcast 117, 3) := by decide +kernel
theorem dX5_stoke_26 : decode cX5_stoke 26 = .ok (.astore_n 3, 1) := by decide +kernel
theorem dX5_stoke_27 : decode cX5_stoke 27 = .ok (.aload_n 3, 1) := by decide +kernel
theorem dX5_stoke_28 : decode cX5_stoke 28 = .ok (.getfield 123, 3) := by decide +kernel
theorem dX5_stoke_31 : decode cX5_stoke 31 = .ok (.iload_n 2, 1) := by decide +kernel
theorem dX5_stoke_32 : decode cX5_stoke 32 = .ok (.iadd, 1) := by decide +kernel
theorem dX5_stoke_33 : decode cX5_stoke 33 = .ok (.sipush 200, 3) := by decide +kernel
theorem dX5_stoke_36 : decode cX5_stoke 36 = .ok (.if_icmp .gt 7, 3) := by decide +kernel
theorem dX5_stoke_39 : decode cX5_stoke 39 = .ok (.iconst 1, 1) := by decide +kernel
theorem dX5_stoke_40 : decode cX5_stoke 40 = .ok (.goto 4, 3) := by decide +kernel
theorem dX5_stoke_43 : decode cX5_stoke 43 = .ok (.iconst 0, 1) := by decide +kernel
theorem dX5_stoke_44 : decode cX5_stoke 44 = .ok (.invokestatic 52, 3) := by decide +kernel
theorem dX5_stoke_47 : decode cX5_stoke 47 = .ok (.aload_n 3, 1) := by decide +kernel
theorem dX5_stoke_48 : decode cX5_stoke 48 = .ok (.dup, 1) := by decide +kernel
theorem dX5_stoke_49 : decode cX5_stoke 49 = .ok (.getfield 123, 3) := by decide +kernel
theorem dX5_stoke_52 : decode cX5_stoke 52 = .ok (.iload_n 2, 1) := by decide +kernel
theorem dX5_stoke_53 : decode cX5_stoke 53 = .ok (.iadd, 1) := by decide +kernel
theorem dX5_stoke_54 : decode cX5_stoke 54 = .ok (.putfield 123, 3) := by decide +kernel
theorem dX5_stoke_57 : decode cX5_stoke 57 = .ok (.aload_n 3, 1) := by decide +kernel
theorem dX5_stoke_58 : decode cX5_stoke 58 = .ok (.getfield 123, 3) := by decide +kernel
theorem dX5_stoke_61 : decode cX5_stoke 61 = .ok (.ireturn, 1) := by decide +kernel
theorem dX5_drive_0 : decode cX5_drive 0 = .ok (.aload_n 0, 1) := by decide +kernel
theorem dX5_drive_1 : decode cX5_drive 1 = .ok (.iload_n 1, 1) := by decide +kernel
theorem dX5_drive_2 : decode cX5_drive 2 = .ok (.invokevirtual 120, 3) := by decide +kernel
theorem dX5_drive_5 : decode cX5_drive 5 = .ok (.iload_n 2, 1) := by decide +kernel
theorem dX5_drive_6 : decode cX5_drive 6 = .ok (.iload_n 3, 1) := by decide +kernel
theorem dX5_drive_7 : decode cX5_drive 7 = .ok (.invokestatic 26, 3) := by decide +kernel
theorem dX5_drive_10 : decode cX5_drive 10 = .ok (.aload_n 0, 1) := by decide +kernel
theorem dX5_drive_11 : decode cX5_drive 11 = .ok (.getfield 19, 3) := by decide +kernel
theorem dX5_drive_14 : decode cX5_drive 14 = .ok (.getfield 114, 3) := by decide +kernel
theorem dX5_drive_17 : decode cX5_drive 17 = .ok (.iload_n 1, 1) := by decide +kernel
theorem dX5_drive_18 : decode cX5_drive 18 = .ok (.invokevirtual 78, 3) := by decide +kernel
theorem dX5_drive_21 : decode cX5_drive 21 = .ok (.checkcast 117, 3) := by decide +kernel
theorem dX5_drive_24 : decode cX5_drive 24 = .ok (.astore 4, 2) := by decide +kernel
theorem dX5_drive_26 : decode cX5_drive 26 = .ok (.iload_n 2, 1) := by decide +kernel
theorem dX5_drive_27 : decode cX5_drive 27 = .ok (.iload_n 3, 1) := by decide +kernel
theorem dX5_drive_28 : decode cX5_drive 28 = .ok (.invokestatic 34, 3) := by decide +kernel
theorem dX5_drive_31 : decode cX5_drive 31 = .ok (.istore 5, 2) := by decide +kernel
theorem dX5_drive_33 : decode cX5_drive 33 = .ok (.aload 4, 2) := by decide +kernel
theorem dX5_drive_35 : decode cX5_drive 35 = .ok (.invokevirtual 126, 3) := by decide +kernel
theorem dX5_drive_38 : decode cX5_drive 38 = .ok (.ifCond .eq 17, 3) := by decide +kernel
theorem dX5_drive_41 : decode cX5_drive 41 = .ok (.aload 4, 2) := by decide +kernel
theorem dX5_drive_43 : decode cX5_drive 43 = .ok (.getfield 130, 3) := by decide +kernel
theorem dX5_drive_46 : decode cX5_drive 46 = .ok (.iload 5, 2) := by decide +kernel
theorem dX5_drive_48 : decode cX5_drive 48 = .ok (.if_icmp .eq 7, 3) := by decide +kernel
theorem dX5_drive_51 : decode cX5_drive 51 = .ok (.iconst 1, 1) := by decide +kernel
theorem dX5_drive_52 : decode cX5_drive 52 = .ok (.goto 4, 3) := by decide +kernel
theorem dX5_drive_55 : decode cX5_drive 55 = .ok (.iconst 0, 1) := by decide +kernel
theorem dX5_drive_56 : decode cX5_drive 56 = .ok (.invokestatic 52, 3) := by decide +kernel
theorem dX5_drive_59 : decode cX5_drive 59 = .ok (.aload_n 0, 1) := by decide +kernel
theorem dX5_drive_60 : decode cX5_drive 60 = .ok (.getfield 12, 3) := by decide +kernel
theorem dX5_drive_63 : decode cX5_drive 63 = .ok (.aload 4, 2) := by decide +kernel
theorem dX5_drive_65 : decode cX5_drive 65 = .ok (.getfield 130, 3) := by decide +kernel
theorem dX5_drive_68 : decode cX5_drive 68 = .ok (.iload 5, 2) := by decide +kernel
theorem dX5_drive_70 : decode cX5_drive 70 = .ok (.invokevirtual 133, 3) := by decide +kernel
theorem dX5_drive_73 : decode cX5_drive 73 = .ok (.istore 6, 2) := by decide +kernel
theorem dX5_drive_75 : decode cX5_drive 75 = .ok (.iload 6, 2) := by decide +kernel
theorem dX5_drive_77 : decode cX5_drive 77 = .ok (.iconst (-1), 1) := by decide +kernel
theorem dX5_drive_78 : decode cX5_drive 78 = .ok (.if_icmp .eq 7, 3) := by decide +kernel
theorem dX5_drive_81 : decode cX5_drive 81 = .ok (.iconst 1, 1) := by decide +kernel
theorem dX5_drive_82 : decode cX5_drive 82 = .ok (.goto 4, 3) := by decide +kernel
theorem dX5_drive_85 : decode cX5_drive 85 = .ok (.iconst 0, 1) := by decide +kernel
theorem dX5_drive_86 : decode cX5_drive 86 = .ok (.invokestatic 52, 3) := by decide +kernel
theorem dX5_drive_89 : decode cX5_drive 89 = .ok (.aload_n 0, 1) := by decide +kernel
theorem dX5_drive_90 : decode cX5_drive 90 = .ok (.getfield 19, 3) := by decide +kernel
theorem dX5_drive_93 : decode cX5_drive 93 = .ok (.iload_n 1, 1) := by decide +kernel
theorem dX5_drive_94 : decode cX5_drive 94 = .ok (.invokevirtual 136, 3) := by decide +kernel
theorem dX5_drive_97 : decode cX5_drive 97 = .ok (.aload 4, 2) := by decide +kernel
theorem dX5_drive_99 : decode cX5_drive 99 = .ok (.iload 5, 2) := by decide +kernel
theorem dX5_drive_101 : decode cX5_drive 101 = .ok (.iload 6, 2) := by decide +kernel
theorem dX5_drive_103 : decode cX5_drive 103 = .ok (.invokevirtual 139, 3) := by decide +kernel
theorem dX5_drive_106 : decode cX5_drive 106 = .ok (.aload 4, 2) := by decide +kernel
theorem dX5_drive_108 : decode cX5_drive 108 = .ok (.getfield 142, 3) := by decide +kernel
theorem dX5_drive_111 : decode cX5_drive 111 = .ok (.ireturn, 1) := by decide +kernel
theorem dX5_relay_0 : decode cX5_relay 0 = .ok (.aload_n 0, 1) := by decide +kernel
theorem dX5_relay_1 : decode cX5_relay 1 = .ok (.iload_n 1, 1) := by decide +kernel
theorem dX5_relay_2 : decode cX5_relay 2 = .ok (.invokevirtual 120, 3) := by decide +kernel
theorem dX5_relay_5 : decode cX5_relay 5 = .ok (.aload_n 0, 1) := by decide +kernel
theorem dX5_relay_6 : decode cX5_relay 6 = .ok (.iload_n 2, 1) := by decide +kernel
theorem dX5_relay_7 : decode cX5_relay 7 = .ok (.invokevirtual 120, 3) := by decide +kernel
theorem dX5_relay_10 : decode cX5_relay 10 = .ok (.aload_n 0, 1) := by decide +kernel
theorem dX5_relay_11 : decode cX5_relay 11 = .ok (.getfield 19, 3) := by decide +kernel
theorem dX5_relay_14 : decode cX5_relay 14 = .ok (.getfield 114, 3) := by decide +kernel
theorem dX5_relay_17 : decode cX5_relay 17 = .ok (.iload_n 1, 1) := by decide +kernel
theorem dX5_relay_18 : decode cX5_relay 18 = .ok (.invokevirtual 78, 3) := by decide +kernel
theorem dX5_relay_21 : decode cX5_relay 21 = .ok (.checkcast 117, 3) := by decide +kernel
theorem dX5_relay_24 : decode cX5_relay 24 = .ok (.astore_n 3, 1) := by decide +kernel
theorem dX5_relay_25 : decode cX5_relay 25 = .ok (.aload_n 0, 1) := by decide +kernel
theorem dX5_relay_26 : decode cX5_relay 26 = .ok (.getfield 19, 3) := by decide +kernel
theorem dX5_relay_29 : decode cX5_relay 29 = .ok (.getfield 114, 3) := by decide +kernel
theorem dX5_relay_32 : decode cX5_relay 32 = .ok (.iload_n 2, 1) := by decide +kernel
theorem dX5_relay_33 : decode cX5_relay 33 = .ok (.invokevirtual 78, 3) := by decide +kernel
theorem dX5_relay_36 : decode cX5_relay 36 = .ok (.checkcast 117, 3) := by decide +kernel
theorem dX5_relay_39 : decode cX5_relay 39 = .ok (.astore 4, 2) := by decide +kernel
theorem dX5_relay_41 : decode cX5_relay 41 = .ok (.aload_n 3, 1) := by decide +kernel
theorem dX5_relay_42 : decode cX5_relay 42 = .ok (.getfield 130, 3) := by decide +kernel
theorem dX5_relay_45 : decode cX5_relay 45 = .ok (.aload 4, 2) := by decide +kernel
theorem dX5_relay_47 : decode cX5_relay 47 = .ok (.getfield 130, 3) := by decide +kernel
theorem dX5_relay_50 : decode cX5_relay 50 = .ok (.invokestatic 145, 3) := by decide +kernel
theorem dX5_relay_53 : decode cX5_relay 53 = .ok (.istore 5, 2) := by decide +kernel
theorem dX5_relay_55 : decode cX5_relay 55 = .ok (.aload_n 3, 1) := by decide +kernel
theorem dX5_relay_56 : decode cX5_relay 56 = .ok (.invokevirtual 126, 3) := by decide +kernel
theorem dX5_relay_59 : decode cX5_relay 59 = .ok (.ifCond .eq 22, 3) := by decide +kernel
theorem dX5_relay_62 : decode cX5_relay 62 = .ok (.aload 4, 2) := by decide +kernel
theorem dX5_relay_64 : decode cX5_relay 64 = .ok (.invokevirtual 126, 3) := by decide +kernel
theorem dX5_relay_67 : decode cX5_relay 67 = .ok (.ifCond .eq 14, 3) := by decide +kernel
theorem dX5_relay_70 : decode cX5_relay 70 = .ok (.iload 5, 2) := by decide +kernel
theorem dX5_relay_72 : decode cX5_relay 72 = .ok (.bipush 6, 2) := by decide +kernel
theorem dX5_relay_74 : decode cX5_relay 74 = .ok (.if_icmp .gt 7, 3) := by decide +kernel
theorem dX5_relay_77 : decode cX5_relay 77 = .ok (.iconst 1, 1) := by decide +kernel
theorem dX5_relay_78 : decode cX5_relay 78 = .ok (.goto 4, 3) := by decide +kernel
theorem dX5_relay_81 : decode cX5_relay 81 = .ok (.iconst 0, 1) := by decide +kernel
theorem dX5_relay_82 : decode cX5_relay 82 = .ok (.invokestatic 52, 3) := by decide +kernel
theorem dX5_relay_85 : decode cX5_relay 85 = .ok (.aload_n 0, 1) := by decide +kernel
theorem dX5_relay_86 : decode cX5_relay 86 = .ok (.getfield 19, 3) := by decide +kernel
theorem dX5_relay_89 : decode cX5_relay 89 = .ok (.iload_n 2, 1) := by decide +kernel
theorem dX5_relay_90 : decode cX5_relay 90 = .ok (.iload_n 1, 1) := by decide +kernel
theorem dX5_relay_91 : decode cX5_relay 91 = .ok (.invokevirtual 148, 3) := by decide +kernel
theorem dX5_relay_94 : decode cX5_relay 94 = .ok (.ifCond .ne 7, 3) := by decide +kernel
theorem dX5_relay_97 : decode cX5_relay 97 = .ok (.iconst 1, 1) := by decide +kernel
theorem dX5_relay_98 : decode cX5_relay 98 = .ok (.goto 4, 3) := by decide +kernel
theorem dX5_relay_101 : decode cX5_relay 101 = .ok (.iconst 0, 1) := by decide +kernel
theorem dX5_relay_102 : decode cX5_relay 102 = .ok (.invokestatic 52, 3) := by decide +kernel
theorem dX5_relay_105 : decode cX5_relay 105 = .ok (.aload_n 3, 1) := by decide +kernel
theorem dX5_relay_106 : decode cX5_relay 106 = .ok (.iload_n 2, 1) := by decide +kernel
theorem dX5_relay_107 : decode cX5_relay 107 = .ok (.putfield 152, 3) := by decide +kernel
theorem dX5_relay_110 : decode cX5_relay 110 = .ok (.iload 5, 2) := by decide +kernel
theorem dX5_relay_112 : decode cX5_relay 112 = .ok (.ireturn, 1) := by decide +kernel
theorem dX5_aim_0 : decode cX5_aim 0 = .ok (.aload_n 0, 1) := by decide +kernel
theorem dX5_aim_1 : decode cX5_aim 1 = .ok (.iload_n 1, 1) := by decide +kernel
theorem dX5_aim_2 : decode cX5_aim 2 = .ok (.invokevirtual 120, 3) := by decide +kernel
theorem dX5_aim_5 : decode cX5_aim 5 = .ok (.aload_n 0, 1) := by decide +kernel
theorem dX5_aim_6 : decode cX5_aim 6 = .ok (.iload_n 2, 1) := by decide +kernel
theorem dX5_aim_7 : decode cX5_aim 7 = .ok (.invokevirtual 74, 3) := by decide +kernel
theorem dX5_aim_10 : decode cX5_aim 10 = .ok (.aload_n 0, 1) := by decide +kernel
theorem dX5_aim_11 : decode cX5_aim 11 = .ok (.getfield 19, 3) := by decide +kernel
theorem dX5_aim_14 : decode cX5_aim 14 = .ok (.getfield 114, 3) := by decide +kernel
theorem dX5_aim_17 : decode cX5_aim 17 = .ok (.iload_n 1, 1) := by decide +kernel
theorem dX5_aim_18 : decode cX5_aim 18 = .ok (.invokevirtual 78, 3) := by decide +kernel
theorem dX5_aim_21 : decode cX5_aim 21 = .ok (.checkcast 117, 3) := by decide +kernel
theorem dX5_aim_24 : decode cX5_aim 24 = .ok (.astore_n 3, 1) := by decide +kernel
theorem dX5_aim_25 : decode cX5_aim 25 = .ok (.aload_n 3, 1) := by decide +kernel
theorem dX5_aim_26 : decode cX5_aim 26 = .ok (.getfield 130, 3) := by decide +kernel
theorem dX5_aim_29 : decode cX5_aim 29 = .ok (.aload_n 0, 1) := by decide +kernel
theorem dX5_aim_30 : decode cX5_aim 30 = .ok (.getfield 19, 3) := by decide +kernel
theorem dX5_aim_33 : decode cX5_aim 33 = .ok (.getfield 42, 3) := by decide +kernel
theorem dX5_aim_36 : decode cX5_aim 36 = .ok (.iload_n 2, 1) := by decide +kernel
theorem dX5_aim_37 : decode cX5_aim 37 = .ok (.invokevirtual 78, 3) := by decide +kernel
theorem dX5_aim_40 : decode cX5_aim 40 = .ok (.checkcast 56, 3) := by decide +kernel
theorem dX5_aim_43 : decode cX5_aim 43 = .ok (.getfield 155, 3) := by decide +kernel
theorem dX5_aim_46 : decode cX5_aim 46 = .ok (.invokestatic 145, 3) := by decide +kernel
theorem dX5_aim_49 : decode cX5_aim 49 = .ok (.istore 4, 2) := by decide +kernel
theorem dX5_aim_51 : decode cX5_aim 51 = .ok (.aload_n 3, 1) := by decide +kernel
theorem dX5_aim_52 : decode cX5_aim 52 = .ok (.invokevirtual 126, 3) := by decide +kernel
theorem dX5_aim_55 : decode cX5_aim 55 = .ok (.ifCond .eq 14, 3) := by decide +kernel
theorem dX5_aim_58 : decode cX5_aim 58 = .ok (.iload 4, 2) := by decide +kernel
theorem dX5_aim_60 : decode cX5_aim 60 = .ok (.bipush 6, 2) := by decide +kernel
theorem dX5_aim_62 : decode cX5_aim 62 = .ok (.if_icmp .gt 7, 3) := by decide +kernel
theorem dX5_aim_65 : decode cX5_aim 65 = .ok (.iconst 1, 1) := by decide +kernel
theorem dX5_aim_66 : decode cX5_aim 66 = .ok (.goto 4, 3) := by decide +kernel
theorem dX5_aim_69 : decode cX5_aim 69 = .ok (.iconst 0, 1) := by decide +kernel
theorem dX5_aim_70 : decode cX5_aim 70 = .ok (.invokestatic 52, 3) := by decide +kernel
theorem dX5_aim_73 : decode cX5_aim 73 = .ok (.aload_n 3, 1) := by decide +kernel
theorem dX5_aim_74 : decode cX5_aim 74 = .ok (.bipush 100, 2) := by decide +kernel
theorem dX5_aim_76 : decode cX5_aim 76 = .ok (.iload_n 2, 1) := by decide +kernel
theorem dX5_aim_77 : decode cX5_aim 77 = .ok (.iadd, 1) := by decide +kernel
theorem dX5_aim_78 : decode cX5_aim 78 = .ok (.putfield 152, 3) := by decide +kernel
theorem dX5_aim_81 : decode cX5_aim 81 = .ok (.iload 4, 2) := by decide +kernel
theorem dX5_aim_83 : decode cX5_aim 83 = .ok (.ireturn, 1) := by decide +kernel
theorem dX5_takeUp_0 : decode cX5_takeUp 0 = .ok (.aload_n 0, 1) := by decide +kernel
theorem dX5_takeUp_1 : decode cX5_takeUp 1 = .ok (.iload_n 1, 1) := by decide +kernel
theorem dX5_takeUp_2 : decode cX5_takeUp 2 = .ok (.invokevirtual 120, 3) := by decide +kernel
theorem dX5_takeUp_5 : decode cX5_takeUp 5 = .ok (.aload_n 0, 1) := by decide +kernel
theorem dX5_takeUp_6 : decode cX5_takeUp 6 = .ok (.getfield 19, 3) := by decide +kernel
theorem dX5_takeUp_9 : decode cX5_takeUp 9 = .ok (.getfield 114, 3) := by decide +kernel
theorem dX5_takeUp_12 : decode cX5_takeUp 12 = .ok (.iload_n 1, 1) := by decide +kernel
theorem dX5_takeUp_13 : decode cX5_takeUp 13 = .ok (.invokevirtual 78, 3) := by decide +kernel
theorem dX5_takeUp_16 : decode cX5_takeUp 16 = .ok (.checkcast 117, 3) := by decide +kernel
theorem dX5_takeUp_19 : decode cX5_takeUp 19 = .ok (.astore_n 2, 1) := by decide +kernel
theorem dX5_takeUp_20 : decode cX5_takeUp 20 = .ok (.aload_n 2, 1) := by decide +kernel
theorem dX5_takeUp_21 : decode cX5_takeUp 21 = .ok (.getfield 152, 3) := by decide +kernel
theorem dX5_takeUp_24 : decode cX5_takeUp 24 = .ok (.iconst (-1), 1) := by decide +kernel
theorem dX5_takeUp_25 : decode cX5_takeUp 25 = .ok (.if_icmp .eq 7, 3) := by decide +kernel
theorem dX5_takeUp_28 : decode cX5_takeUp 28 = .ok (.iconst 1, 1) := by decide +kernel
theorem dX5_takeUp_29 : decode cX5_takeUp 29 = .ok (.goto 4, 3) := by decide +kernel
theorem dX5_takeUp_32 : decode cX5_takeUp 32 = .ok (.iconst 0, 1) := by decide +kernel
theorem dX5_takeUp_33 : decode cX5_takeUp 33 = .ok (.istore_n 3, 1) := by decide +kernel
theorem dX5_takeUp_34 : decode cX5_takeUp 34 = .ok (.aload_n 2, 1) := by decide +kernel
theorem dX5_takeUp_35 : decode cX5_takeUp 35 = .ok (.iconst (-1), 1) := by decide +kernel
theorem dX5_takeUp_36 : decode cX5_takeUp 36 = .ok (.putfield 152, 3) := by decide +kernel
theorem dX5_takeUp_39 : decode cX5_takeUp 39 = .ok (.iload_n 3, 1) := by decide +kernel
theorem dX5_takeUp_40 : decode cX5_takeUp 40 = .ok (.ireturn, 1) := by decide +kernel
theorem dX5_engine_0 : decode cX5_engine 0 = .ok (.aload_n 0, 1) := by decide +kernel
theorem dX5_engine_1 : decode cX5_engine 1 = .ok (.iload_n 1, 1) := by decide +kernel
theorem dX5_engine_2 : decode cX5_engine 2 = .ok (.invokevirtual 120, 3) := by decide +kernel
theorem dX5_engine_5 : decode cX5_engine 5 = .ok (.iload_n 2, 1) := by decide +kernel
theorem dX5_engine_6 : decode cX5_engine 6 = .ok (.bipush 9, 2) := by decide +kernel
theorem dX5_engine_8 : decode cX5_engine 8 = .ok (.invokestatic 93, 3) := by decide +kernel
theorem dX5_engine_11 : decode cX5_engine 11 = .ok (.aload_n 0, 1) := by decide +kernel
theorem dX5_engine_12 : decode cX5_engine 12 = .ok (.getfield 19, 3) := by decide +kernel
theorem dX5_engine_15 : decode cX5_engine 15 = .ok (.aload_n 0, 1) := by decide +kernel
theorem dX5_engine_16 : decode cX5_engine 16 = .ok (.getfield 19, 3) := by decide +kernel
theorem dX5_engine_19 : decode cX5_engine 19 = .ok (.getfield 114, 3) := by decide +kernel
theorem dX5_engine_22 : decode cX5_engine 22 = .ok (.iload_n 1, 1) := by decide +kernel
theorem dX5_engine_23 : decode cX5_engine 23 = .ok (.invokevirtual 78, 3) := by decide +kernel
theorem dX5_engine_26 : decode cX5_engine 26 = .ok (.checkcast 117, 3) := by decide +kernel
theorem dX5_engine_29 : decode cX5_engine 29 = .ok (.iload_n 2, 1) := by decide +kernel
theorem dX5_engine_30 : decode cX5_engine 30 = .ok (.invokevirtual 156, 3) := by decide +kernel
theorem dX5_engine_33 : decode cX5_engine 33 = .ok (.ireturn, 1) := by decide +kernel
theorem dX5_pond_0 : decode cX5_pond 0 = .ok (.iload_n 1, 1) := by decide +kernel
theorem dX5_pond_1 : decode cX5_pond 1 = .ok (.ifCond .lt 17, 3) := by decide +kernel
theorem dX5_pond_4 : decode cX5_pond 4 = .ok (.iload_n 1, 1) := by decide +kernel
theorem dX5_pond_5 : decode cX5_pond 5 = .ok (.aload_n 0, 1) := by decide +kernel
theorem dX5_pond_6 : decode cX5_pond 6 = .ok (.getfield 19, 3) := by decide +kernel
theorem dX5_pond_9 : decode cX5_pond 9 = .ok (.getfield 67, 3) := by decide +kernel
theorem dX5_pond_12 : decode cX5_pond 12 = .ok (.invokevirtual 46, 3) := by decide +kernel
theorem dX5_pond_15 : decode cX5_pond 15 = .ok (.if_icmp .lt 13, 3) := by decide +kernel
theorem dX5_pond_18 : decode cX5_pond 18 = .ok (.new 160, 3) := by decide +kernel
theorem dX5_pond_21 : decode cX5_pond 21 = .ok (.dup, 1) := by decide +kernel
theorem dX5_pond_22 : decode cX5_pond 22 = .ok (.ldc 162, 2) := by decide +kernel
theorem dX5_pond_24 : decode cX5_pond 24 = .ok (.invokespecial 164, 3) := by decide +kernel
theorem dX5_pond_27 : decode cX5_pond 27 = .ok (.athrow, 1) := by decide +kernel
theorem dX5_pond_28 : decode cX5_pond 28 = .ok (.aload_n 0, 1) := by decide +kernel
theorem dX5_pond_29 : decode cX5_pond 29 = .ok (.getfield 19, 3) := by decide +kernel
theorem dX5_pond_32 : decode cX5_pond 32 = .ok (.getfield 67, 3) := by decide +kernel
theorem dX5_pond_35 : decode cX5_pond 35 = .ok (.iload_n 1, 1) := by decide +kernel
theorem dX5_pond_36 : decode cX5_pond 36 = .ok (.invokevirtual 78, 3) := by decide +kernel
theorem dX5_pond_39 : decode cX5_pond 39 = .ok (.checkcast 70, 3) := by decide +kernel
theorem dX5_pond_42 : decode cX5_pond 42 = .ok (.getfield 167, 3) := by decide +kernel
theorem dX5_pond_45 : decode cX5_pond 45 = .ok (.ireturn, 1) := by decide +kernel
theorem dX5_pass_0 : decode cX5_pass 0 = .ok (.iload_n 1, 1) := by decide +kernel
theorem dX5_pass_1 : decode cX5_pass 1 = .ok (.iconst 1, 1) := by decide +kernel
theorem dX5_pass_2 : decode cX5_pass 2 = .ok (.bipush 100, 2) := by decide +kernel
theorem dX5_pass_4 : decode cX5_pass 4 = .ok (.invokestatic 30, 3) := by decide +kernel
theorem dX5_pass_7 : decode cX5_pass 7 = .ok (.aload_n 0, 1) := by decide +kernel
theorem dX5_pass_8 : decode cX5_pass 8 = .ok (.getfield 19, 3) := by decide +kernel
theorem dX5_pass_11 : decode cX5_pass 11 = .ok (.iload_n 1, 1) := by decide +kernel
theorem dX5_pass_12 : decode cX5_pass 12 = .ok (.invokevirtual 170, 3) := by decide +kernel
theorem dX5_pass_15 : decode cX5_pass 15 = .ok (.ireturn, 1) := by decide +kernel
theorem dX5_count_0 : decode cX5_count 0 = .ok (.iload_n 1, 1) := by decide +kernel
theorem dX5_count_1 : decode cX5_count 1 = .ok (.bipush 9, 2) := by decide +kernel
theorem dX5_count_3 : decode cX5_count 3 = .ok (.invokestatic 93, 3) := by decide +kernel
theorem dX5_count_6 : decode cX5_count 6 = .ok (.aload_n 0, 1) := by decide +kernel
theorem dX5_count_7 : decode cX5_count 7 = .ok (.getfield 19, 3) := by decide +kernel
theorem dX5_count_10 : decode cX5_count 10 = .ok (.iload_n 1, 1) := by decide +kernel
theorem dX5_count_11 : decode cX5_count 11 = .ok (.invokevirtual 173, 3) := by decide +kernel
theorem dX5_count_14 : decode cX5_count 14 = .ok (.ireturn, 1) := by decide +kernel
theorem dX5_foresee_0 : decode cX5_foresee 0 = .ok (.iload_n 1, 1) := by decide +kernel
theorem dX5_foresee_1 : decode cX5_foresee 1 = .ok (.iconst 1, 1) := by decide +kernel
theorem dX5_foresee_2 : decode cX5_foresee 2 = .ok (.bipush 100, 2) := by decide +kernel
theorem dX5_foresee_4 : decode cX5_foresee 4 = .ok (.invokestatic 30, 3) := by decide +kernel
theorem dX5_foresee_7 : decode cX5_foresee 7 = .ok (.iload_n 2, 1) := by decide +kernel
theorem dX5_foresee_8 : decode cX5_foresee 8 = .ok (.iconst 2, 1) := by decide +kernel
theorem dX5_foresee_9 : decode cX5_foresee 9 = .ok (.invokestatic 93, 3) := by decide +kernel
theorem dX5_foresee_12 : decode cX5_foresee 12 = .ok (.aload_n 0, 1) := by decide +kernel
theorem dX5_foresee_13 : decode cX5_foresee 13 = .ok (.getfield 23, 3) := by decide +kernel
theorem dX5_foresee_16 : decode cX5_foresee 16 = .ok (.aload_n 0, 1) := by decide +kernel
theorem dX5_foresee_17 : decode cX5_foresee 17 = .ok (.getfield 19, 3) := by decide +kernel
theorem dX5_foresee_20 : decode cX5_foresee 20 = .ok (.invokevirtual 174, 3) := by decide +kernel
theorem dX5_foresee_23 : decode cX5_foresee 23 = .ok (.aload_n 0, 1) := by decide +kernel
theorem dX5_foresee_24 : decode cX5_foresee 24 = .ok (.getfield 23, 3) := by decide +kernel
theorem dX5_foresee_27 : decode cX5_foresee 27 = .ok (.iload_n 1, 1) := by decide +kernel
theorem dX5_foresee_28 : decode cX5_foresee 28 = .ok (.invokevirtual 170, 3) := by decide +kernel
theorem dX5_foresee_31 : decode cX5_foresee 31 = .ok (.pop, 1) := by decide +kernel
theorem dX5_foresee_32 : decode cX5_foresee 32 = .ok (.iload_n 2, 1) := by decide +kernel
theorem dX5_foresee_33 : decode cX5_foresee 33 = .ok (.lookupswitch 45 #[(0, 27), (1, 36)], 27) := by decide +kernel
theorem dX5_foresee_60 : decode cX5_foresee 60 = .ok (.aload_n 0, 1) := by decide +kernel
theorem dX5_foresee_61 : decode cX5_foresee 61 = .ok (.getfield 23, 3) := by decide +kernel
theorem dX5_foresee_64 : decode cX5_foresee 64 = .ok (.iconst 2, 1) := by decide +kernel
theorem dX5_foresee_65 : decode cX5_foresee 65 = .ok (.invokevirtual 173, 3) := by decide +kernel
theorem dX5_foresee_68 : decode cX5_foresee 68 = .ok (.ireturn, 1) := by decide +kernel
theorem dX5_foresee_69 : decode cX5_foresee 69 = .ok (.aload_n 0, 1) := by decide +kernel
theorem dX5_foresee_70 : decode cX5_foresee 70 = .ok (.getfield 23, 3) := by decide +kernel
theorem dX5_foresee_73 : decode cX5_foresee 73 = .ok (.iconst 4, 1) := by decide +kernel
theorem dX5_foresee_74 : decode cX5_foresee 74 = .ok (.invokevirtual 173, 3) := by decide +kernel
theorem dX5_foresee_77 : decode cX5_foresee 77 = .ok (.ireturn, 1) := by decide +kernel
theorem dX5_foresee_78 : decode cX5_foresee 78 = .ok (.aload_n 0, 1) := by decide +kernel
theorem dX5_foresee_79 : decode cX5_foresee 79 = .ok (.getfield 23, 3) := by decide +kernel
theorem dX5_foresee_82 : decode cX5_foresee 82 = .ok (.bipush 8, 2) := by decide +kernel
theorem dX5_foresee_84 : decode cX5_foresee 84 = .ok (.invokevirtual 173, 3) := by decide +kernel
theorem dX5_foresee_87 : decode cX5_foresee 87 = .ok (.ireturn, 1) := by decide +kernel
theorem dX5_lasts_0 : decode cX5_lasts 0 = .ok (.aload_n 0, 1) := by decide +kernel
theorem dX5_lasts_1 : decode cX5_lasts 1 = .ok (.getfield 23, 3) := by decide +kernel
theorem dX5_lasts_4 : decode cX5_lasts 4 = .ok (.aload_n 0, 1) := by decide +kernel
theorem dX5_lasts_5 : decode cX5_lasts 5 = .ok (.getfield 19, 3) := by decide +kernel
theorem dX5_lasts_8 : decode cX5_lasts 8 = .ok (.invokevirtual 174, 3) := by decide +kernel
theorem dX5_lasts_11 : decode cX5_lasts 11 = .ok (.iconst 0, 1) := by decide +kernel
theorem dX5_lasts_12 : decode cX5_lasts 12 = .ok (.istore_n 1, 1) := by decide +kernel
theorem dX5_lasts_13 : decode cX5_lasts 13 = .ok (.iload_n 1, 1) := by decide +kernel
theorem dX5_lasts_14 : decode cX5_lasts 14 = .ok (.sipush 200, 3) := by decide +kernel
theorem dX5_lasts_17 : decode cX5_lasts 17 = .ok (.if_icmp .gt 31, 3) := by decide +kernel
theorem dX5_lasts_20 : decode cX5_lasts 20 = .ok (.aload_n 0, 1) := by decide +kernel
theorem dX5_lasts_21 : decode cX5_lasts 21 = .ok (.getfield 23, 3) := by decide +kernel
theorem dX5_lasts_24 : decode cX5_lasts 24 = .ok (.iconst 1, 1) := by decide +kernel
theorem dX5_lasts_25 : decode cX5_lasts 25 = .ok (.invokevirtual 89, 3) := by decide +kernel
theorem dX5_lasts_28 : decode cX5_lasts 28 = .ok (.ifCond .ne 5, 3) := by decide +kernel
theorem dX5_lasts_31 : decode cX5_lasts 31 = .ok (.iload_n 1, 1) := by decide +kernel
theorem dX5_lasts_32 : decode cX5_lasts 32 = .ok (.ireturn, 1) := by decide +kernel
theorem dX5_lasts_33 : decode cX5_lasts 33 = .ok (.aload_n 0, 1) := by decide +kernel
theorem dX5_lasts_34 : decode cX5_lasts 34 = .ok (.getfield 23, 3) := by decide +kernel
theorem dX5_lasts_37 : decode cX5_lasts 37 = .ok (.iconst 1, 1) := by decide +kernel
theorem dX5_lasts_38 : decode cX5_lasts 38 = .ok (.invokevirtual 170, 3) := by decide +kernel
theorem dX5_lasts_41 : decode cX5_lasts 41 = .ok (.pop, 1) := by decide +kernel
theorem dX5_lasts_42 : decode cX5_lasts 42 = .ok (.iinc 1 1, 3) := by decide +kernel
theorem dX5_lasts_45 : decode cX5_lasts 45 = .ok (.goto (-32), 3) := by decide +kernel
theorem dX5_lasts_48 : decode cX5_lasts 48 = .ok (.iconst (-1), 1) := by decide +kernel
theorem dX5_lasts_49 : decode cX5_lasts 49 = .ok (.ireturn, 1) := by decide +kernel
theorem dX5_weakest_0 : decode cX5_weakest 0 = .ok (.aload_n 0, 1) := by decide +kernel
theorem dX5_weakest_1 : decode cX5_weakest 1 = .ok (.iload_n 1, 1) := by decide +kernel
theorem dX5_weakest_2 : decode cX5_weakest 2 = .ok (.invokevirtual 120, 3) := by decide +kernel
theorem dX5_weakest_5 : decode cX5_weakest 5 = .ok (.iload_n 1, 1) := by decide +kernel
theorem dX5_weakest_6 : decode cX5_weakest 6 = .ok (.istore_n 2, 1) := by decide +kernel
theorem dX5_weakest_7 : decode cX5_weakest 7 = .ok (.aload_n 0, 1) := by decide +kernel
theorem dX5_weakest_8 : decode cX5_weakest 8 = .ok (.getfield 19, 3) := by decide +kernel
theorem dX5_weakest_11 : decode cX5_weakest 11 = .ok (.getfield 114, 3) := by decide +kernel
theorem dX5_weakest_14 : decode cX5_weakest 14 = .ok (.iload_n 1, 1) := by decide +kernel
theorem dX5_weakest_15 : decode cX5_weakest 15 = .ok (.invokevirtual 78, 3) := by decide +kernel
theorem dX5_weakest_18 : decode cX5_weakest 18 = .ok (.checkcast 117, 3) := by decide +kernel
theorem dX5_weakest_21 : decode cX5_weakest 21 = .ok (.invokevirtual 178, 3) := by decide +kernel
theorem dX5_weakest_24 : decode cX5_weakest 24 = .ok (.istore_n 3, 1) := by decide +kernel
theorem dX5_weakest_25 : decode cX5_weakest 25 = .ok (.iconst 0, 1) := by decide +kernel
theorem dX5_weakest_26 : decode cX5_weakest 26 = .ok (.istore 4, 2) := by decide +kernel
theorem dX5_weakest_28 : decode cX5_weakest 28 = .ok (.iload 4, 2) := by decide +kernel
theorem dX5_weakest_30 : decode cX5_weakest 30 = .ok (.aload_n 0, 1) := by decide +kernel
theorem dX5_weakest_31 : decode cX5_weakest 31 = .ok (.getfield 19, 3) := by decide +kernel
theorem dX5_weakest_34 : decode cX5_weakest 34 = .ok (.getfield 114, 3) := by decide +kernel
theorem dX5_weakest_37 : decode cX5_weakest 37 = .ok (.invokevirtual 46, 3) := by decide +kernel
theorem dX5_weakest_40 : decode cX5_weakest 40 = .ok (.if_icmp .ge 78, 3) := by decide +kernel
theorem dX5_weakest_43 : decode cX5_weakest 43 = .ok (.aload_n 0, 1) := by decide +kernel
theorem dX5_weakest_44 : decode cX5_weakest 44 = .ok (.getfield 19, 3) := by decide +kernel
theorem dX5_weakest_47 : decode cX5_weakest 47 = .ok (.getfield 114, 3) := by decide +kernel
theorem dX5_weakest_50 : decode cX5_weakest 50 = .ok (.iload 4, 2) := by decide +kernel
theorem dX5_weakest_52 : decode cX5_weakest 52 = .ok (.invokevirtual 78, 3) := by decide +kernel
theorem dX5_weakest_55 : decode cX5_weakest 55 = .ok (.checkcast 117, 3) := by decide +kernel
theorem dX5_weakest_58 : decode cX5_weakest 58 = .ok (.invokevirtual 178, 3) := by decide +kernel
theorem dX5_weakest_61 : decode cX5_weakest 61 = .ok (.istore 5, 2) := by decide +kernel
theorem dX5_weakest_63 : decode cX5_weakest 63 = .ok (.iload 5, 2) := by decide +kernel
theorem dX5_weakest_65 : decode cX5_weakest 65 = .ok (.iload_n 3, 1) := by decide +kernel
theorem dX5_weakest_66 : decode cX5_weakest 66 = .ok (.if_icmp .lt 15, 3) := by decide +kernel
theorem dX5_weakest_69 : decode cX5_weakest 69 = .ok (.iload 5, 2) := by decide +kernel
theorem dX5_weakest_71 : decode cX5_weakest 71 = .ok (.iload_n 3, 1) := by decide +kernel
theorem dX5_weakest_72 : decode cX5_weakest 72 = .ok (.if_icmp .ne 13, 3) := by decide +kernel
theorem dX5_weakest_75 : decode cX5_weakest 75 = .ok (.iload 4, 2) := by decide +kernel
theorem dX5_weakest_77 : decode cX5_weakest 77 = .ok (.iload_n 2, 1) := by decide +kernel
theorem dX5_weakest_78 : decode cX5_weakest 78 = .ok (.if_icmp .ge 7, 3) := by decide +kernel
theorem dX5_weakest_81 : decode cX5_weakest 81 = .ok (.iconst 1, 1) := by decide +kernel
theorem dX5_weakest_82 : decode cX5_weakest 82 = .ok (.goto 4, 3) := by decide +kernel
theorem dX5_weakest_85 : decode cX5_weakest 85 = .ok (.iconst 0, 1) := by decide +kernel
theorem dX5_weakest_86 : decode cX5_weakest 86 = .ok (.istore 6, 2) := by decide +kernel
theorem dX5_weakest_88 : decode cX5_weakest 88 = .ok (.iload 6, 2) := by decide +kernel
theorem dX5_weakest_90 : decode cX5_weakest 90 = .ok (.ifCond .eq 22, 3) := by decide +kernel
theorem dX5_weakest_93 : decode cX5_weakest 93 = .ok (.aload_n 0, 1) := by decide +kernel
theorem dX5_weakest_94 : decode cX5_weakest 94 = .ok (.getfield 19, 3) := by decide +kernel
theorem dX5_weakest_97 : decode cX5_weakest 97 = .ok (.iload 4, 2) := by decide +kernel
theorem dX5_weakest_99 : decode cX5_weakest 99 = .ok (.iload_n 1, 1) := by decide +kernel
theorem dX5_weakest_100 : decode cX5_weakest 100 = .ok (.invokevirtual 148, 3) := by decide +kernel
theorem dX5_weakest_103 : decode cX5_weakest 103 = .ok (.ifCond .eq 9, 3) := by decide +kernel
theorem dX5_weakest_106 : decode cX5_weakest 106 = .ok (.iload 4, 2) := by decide +kernel
theorem dX5_weakest_108 : decode cX5_weakest 108 = .ok (.istore_n 2, 1) := by decide +kernel
theorem dX5_weakest_109 : decode cX5_weakest 109 = .ok (.iload 5, 2) := by decide +kernel
theorem dX5_weakest_111 : decode cX5_weakest 111 = .ok (.istore_n 3, 1) := by decide +kernel
theorem dX5_weakest_112 : decode cX5_weakest 112 = .ok (.iinc 4 1, 3) := by decide +kernel
theorem dX5_weakest_115 : decode cX5_weakest 115 = .ok (.goto (-87), 3) := by decide +kernel
theorem dX5_weakest_118 : decode cX5_weakest 118 = .ok (.iload_n 2, 1) := by decide +kernel
theorem dX5_weakest_119 : decode cX5_weakest 119 = .ok (.ireturn, 1) := by decide +kernel
theorem dX5_advise_0 : decode cX5_advise 0 = .ok (.aload_n 0, 1) := by decide +kernel
theorem dX5_advise_1 : decode cX5_advise 1 = .ok (.iload_n 1, 1) := by decide +kernel
theorem dX5_advise_2 : decode cX5_advise 2 = .ok (.invokevirtual 120, 3) := by decide +kernel
theorem dX5_advise_5 : decode cX5_advise 5 = .ok (.iload_n 2, 1) := by decide +kernel
theorem dX5_advise_6 : decode cX5_advise 6 = .ok (.iconst 1, 1) := by decide +kernel
theorem dX5_advise_7 : decode cX5_advise 7 = .ok (.bipush 50, 2) := by decide +kernel
theorem dX5_advise_9 : decode cX5_advise 9 = .ok (.invokestatic 30, 3) := by decide +kernel
theorem dX5_advise_12 : decode cX5_advise 12 = .ok (.aload_n 0, 1) := by decide +kernel
theorem dX5_advise_13 : decode cX5_advise 13 = .ok (.getfield 19, 3) := by decide +kernel
theorem dX5_advise_16 : decode cX5_advise 16 = .ok (.getfield 114, 3) := by decide +kernel
theorem dX5_advise_19 : decode cX5_advise 19 = .ok (.iload_n 1, 1) := by decide +kernel
theorem dX5_advise_20 : decode cX5_advise 20 = .ok (.invokevirtual 78, 3) := by decide +kernel
theorem dX5_advise_23 : decode cX5_advise 23 = .ok (.checkcast 117, 3) := by decide +kernel
theorem dX5_advise_26 : decode cX5_advise 26 = .ok (.astore_n 3, 1) := by decide +kernel
theorem dX5_advise_27 : decode cX5_advise 27 = .ok (.iconst (-1), 1) := by decide +kernel
theorem dX5_advise_28 : decode cX5_advise 28 = .ok (.istore 4, 2) := by decide +kernel
theorem dX5_advise_30 : decode cX5_advise 30 = .ok (.bipush 31, 2) := by decide +kernel
theorem dX5_advise_32 : decode cX5_advise 32 = .ok (.istore 5, 2) := by decide +kernel
theorem dX5_advise_34 : decode cX5_advise 34 = .ok (.iconst 0, 1) := by decide +kernel
theorem dX5_advise_35 : decode cX5_advise 35 = .ok (.istore 6, 2) := by decide +kernel
theorem dX5_advise_37 : decode cX5_advise 37 = .ok (.iload 6, 2) := by decide +kernel
theorem dX5_advise_39 : decode cX5_advise 39 = .ok (.aload_n 0, 1) := by decide +kernel
theorem dX5_advise_40 : decode cX5_advise 40 = .ok (.getfield 19, 3) := by decide +kernel
theorem dX5_advise_43 : decode cX5_advise 43 = .ok (.getfield 42, 3) := by decide +kernel
theorem dX5_advise_46 : decode cX5_advise 46 = .ok (.invokevirtual 46, 3) := by decide +kernel
theorem dX5_advise_49 : decode cX5_advise 49 = .ok (.if_icmp .ge 96, 3) := by decide +kernel
theorem dX5_advise_52 : decode cX5_advise 52 = .ok (.aload_n 0, 1) := by decide +kernel
theorem dX5_advise_53 : decode cX5_advise 53 = .ok (.getfield 19, 3) := by decide +kernel
theorem dX5_advise_56 : decode cX5_advise 56 = .ok (.getfield 42, 3) := by decide +kernel
theorem dX5_advise_59 : decode cX5_advise 59 = .ok (.iload 6, 2) := by decide +kernel
theorem dX5_advise_61 : decode cX5_advise 61 = .ok (.invokevirtual 78, 3) := by decide +kernel
theorem dX5_advise_64 : decode cX5_advise 64 = .ok (.checkcast 56, 3) := by decide +kernel
theorem dX5_advise_67 : decode cX5_advise 67 = .ok (.astore 7, 2) := by decide +kernel
theorem dX5_advise_69 : decode cX5_advise 69 = .ok (.aload_n 3, 1) := by decide +kernel
theorem dX5_advise_70 : decode cX5_advise 70 = .ok (.getfield 130, 3) := by decide +kernel
theorem dX5_advise_73 : decode cX5_advise 73 = .ok (.aload 7, 2) := by decide +kernel
theorem dX5_advise_75 : decode cX5_advise 75 = .ok (.getfield 155, 3) := by decide +kernel
theorem dX5_advise_78 : decode cX5_advise 78 = .ok (.invokestatic 145, 3) := by decide +kernel
theorem dX5_advise_81 : decode cX5_advise 81 = .ok (.bipush 6, 2) := by decide +kernel
theorem dX5_advise_83 : decode cX5_advise 83 = .ok (.if_icmp .gt 7, 3) := by decide +kernel
theorem dX5_advise_86 : decode cX5_advise 86 = .ok (.iconst 1, 1) := by decide +kernel
theorem dX5_advise_87 : decode cX5_advise 87 = .ok (.goto 4, 3) := by decide +kernel
theorem dX5_advise_90 : decode cX5_advise 90 = .ok (.iconst 0, 1) := by decide +kernel
theorem dX5_advise_91 : decode cX5_advise 91 = .ok (.istore 8, 2) := by decide +kernel
theorem dX5_advise_93 : decode cX5_advise 93 = .ok (.aload_n 3, 1) := by decide +kernel
theorem dX5_advise_94 : decode cX5_advise 94 = .ok (.invokevirtual 126, 3) := by decide +kernel
theorem dX5_advise_97 : decode cX5_advise 97 = .ok (.ifCond .eq 42, 3) := by decide +kernel
theorem dX5_advise_100 : decode cX5_advise 100 = .ok (.aload 7, 2) := by decide +kernel
theorem dX5_advise_102 : decode cX5_advise 102 = .ok (.getfield 82, 3) := by decide +kernel
theorem dX5_advise_105 : decode cX5_advise 105 = .ok (.iconst 1, 1) := by decide +kernel
theorem dX5_advise_106 : decode cX5_advise 106 = .ok (.if_icmp .ne 33, 3) := by decide +kernel
theorem dX5_advise_109 : decode cX5_advise 109 = .ok (.iload 8, 2) := by decide +kernel
theorem dX5_advise_111 : decode cX5_advise 111 = .ok (.ifCond .eq 28, 3) := by decide +kernel
theorem dX5_advise_114 : decode cX5_advise 114 = .ok (.aload_n 0, 1) := by decide +kernel
theorem dX5_advise_115 : decode cX5_advise 115 = .ok (.iload_n 1, 1) := by decide +kernel
theorem dX5_advise_116 : decode cX5_advise 116 = .ok (.iload 6, 2) := by decide +kernel
theorem dX5_advise_118 : decode cX5_advise 118 = .ok (.iload_n 2, 1) := by decide +kernel
theorem dX5_advise_119 : decode cX5_advise 119 = .ok (.invokevirtual 181, 3) := by decide +kernel
theorem dX5_advise_122 : decode cX5_advise 122 = .ok (.istore 9, 2) := by decide +kernel
theorem dX5_advise_124 : decode cX5_advise 124 = .ok (.iload 9, 2) := by decide +kernel
theorem dX5_advise_126 : decode cX5_advise 126 = .ok (.iload 5, 2) := by decide +kernel
theorem dX5_advise_128 : decode cX5_advise 128 = .ok (.if_icmp .ge 11, 3) := by decide +kernel
theorem dX5_advise_131 : decode cX5_advise 131 = .ok (.iload 9, 2) := by decide +kernel
theorem dX5_advise_133 : decode cX5_advise 133 = .ok (.istore 5, 2) := by decide +kernel
theorem dX5_advise_135 : decode cX5_advise 135 = .ok (.iload 6, 2) := by decide +kernel
theorem dX5_advise_137 : decode cX5_advise 137 = .ok (.istore 4, 2) := by decide +kernel
theorem dX5_advise_139 : decode cX5_advise 139 = .ok (.iinc 6 1, 3) := by decide +kernel
theorem dX5_advise_142 : decode cX5_advise 142 = .ok (.goto (-105), 3) := by decide +kernel
theorem dX5_advise_145 : decode cX5_advise 145 = .ok (.iload 4, 2) := by decide +kernel
theorem dX5_advise_147 : decode cX5_advise 147 = .ok (.ireturn, 1) := by decide +kernel
theorem dX5_walls_0 : decode cX5_walls 0 = .ok (.aload_n 0, 1) := by decide +kernel
theorem dX5_walls_1 : decode cX5_walls 1 = .ok (.getfield 19, 3) := by decide +kernel
theorem dX5_walls_4 : decode cX5_walls 4 = .ok (.getfield 42, 3) := by decide +kernel
theorem dX5_walls_7 : decode cX5_walls 7 = .ok (.invokevirtual 46, 3) := by decide +kernel
theorem dX5_walls_10 : decode cX5_walls 10 = .ok (.istore_n 1, 1) := by decide +kernel
theorem dX5_walls_11 : decode cX5_walls 11 = .ok (.iload_n 1, 1) := by decide +kernel
theorem dX5_walls_12 : decode cX5_walls 12 = .ok (.ifCond .ne 5, 3) := by decide +kernel
theorem dX5_walls_15 : decode cX5_walls 15 = .ok (.dconst 0, 1) := by decide +kernel
theorem dX5_walls_16 : decode cX5_walls 16 = .ok (.dreturn, 1) := by decide +kernel
theorem dX5_walls_17 : decode cX5_walls 17 = .ok (.iconst 0, 1) := by decide +kernel
theorem dX5_walls_18 : decode cX5_walls 18 = .ok (.istore_n 2, 1) := by decide +kernel
theorem dX5_walls_19 : decode cX5_walls 19 = .ok (.iconst 0, 1) := by decide +kernel
theorem dX5_walls_20 : decode cX5_walls 20 = .ok (.istore_n 3, 1) := by decide +kernel
theorem dX5_walls_21 : decode cX5_walls 21 = .ok (.iload_n 3, 1) := by decide +kernel
theorem dX5_walls_22 : decode cX5_walls 22 = .ok (.iload_n 1, 1) := by decide +kernel
theorem dX5_walls_23 : decode cX5_walls 23 = .ok (.if_icmp .ge 29, 3) := by decide +kernel
theorem dX5_walls_26 : decode cX5_walls 26 = .ok (.iload_n 2, 1) := by decide +kernel
theorem dX5_walls_27 : decode cX5_walls 27 = .ok (.aload_n 0, 1) := by decide +kernel
theorem dX5_walls_28 : decode cX5_walls 28 = .ok (.getfield 19, 3) := by decide +kernel
theorem dX5_walls_31 : decode cX5_walls 31 = .ok (.getfield 42, 3) := by decide +kernel
theorem dX5_walls_34 : decode cX5_walls 34 = .ok (.iload_n 3, 1) := by decide +kernel
theorem dX5_walls_35 : decode cX5_walls 35 = .ok (.invokevirtual 78, 3) := by decide +kernel
theorem dX5_walls_38 : decode cX5_walls 38 = .ok (.checkcast 56, 3) := by decide +kernel
theorem dX5_walls_41 : decode cX5_walls 41 = .ok (.getfield 185, 3) := by decide +kernel
theorem dX5_walls_44 : decode cX5_walls 44 = .ok (.iadd, 1) := by decide +kernel
theorem dX5_walls_45 : decode cX5_walls 45 = .ok (.istore_n 2, 1) := by decide +kernel
theorem dX5_walls_46 : decode cX5_walls 46 = .ok (.iinc 3 1, 3) := by decide +kernel
theorem dX5_walls_49 : decode cX5_walls 49 = .ok (.goto (-28), 3) := by decide +kernel
theorem dX5_walls_52 : decode cX5_walls 52 = .ok (.iload_n 2, 1) := by decide +kernel
theorem dX5_walls_53 : decode cX5_walls 53 = .ok (.i2d, 1) := by decide +kernel
theorem dX5_walls_54 : decode cX5_walls 54 = .ok (.iload_n 1, 1) := by decide +kernel
theorem dX5_walls_55 : decode cX5_walls 55 = .ok (.i2d, 1) := by decide +kernel
theorem dX5_walls_56 : decode cX5_walls 56 = .ok (.ddiv, 1) := by decide +kernel
theorem dX5_walls_57 : decode cX5_walls 57 = .ok (.dreturn, 1) := by decide +kernel
theorem dX5_digest_0 : decode cX5_digest 0 = .ok (.ldc2_w 188, 3) := by decide +kernel
theorem dX5_digest_3 : decode cX5_digest 3 = .ok (.lstore_n 1, 1) := by decide +kernel
theorem dX5_digest_4 : decode cX5_digest 4 = .ok (.iconst 0, 1) := by decide +kernel
theorem dX5_digest_5 : decode cX5_digest 5 = .ok (.istore_n 3, 1) := by decide +kernel
theorem dX5_digest_6 : decode cX5_digest 6 = .ok (.iload_n 3, 1) := by decide +kernel
theorem dX5_digest_7 : decode cX5_digest 7 = .ok (.bipush 9, 2) := by decide +kernel
theorem dX5_digest_9 : decode cX5_digest 9 = .ok (.if_icmp .gt 25, 3) := by decide +kernel
theorem dX5_digest_12 : decode cX5_digest 12 = .ok (.lload_n 1, 1) := by decide +kernel
theorem dX5_digest_13 : decode cX5_digest 13 = .ok (.ldc2_w 190, 3) := by decide +kernel
theorem dX5_digest_16 : decode cX5_digest 16 = .ok (.lmul, 1) := by decide +kernel
theorem dX5_digest_17 : decode cX5_digest 17 = .ok (.aload_n 0, 1) := by decide +kernel
theorem dX5_digest_18 : decode cX5_digest 18 = .ok (.getfield 19, 3) := by decide +kernel
theorem dX5_digest_21 : decode cX5_digest 21 = .ok (.iload_n 3, 1) := by decide +kernel
theorem dX5_digest_22 : decode cX5_digest 22 = .ok (.invokevirtual 173, 3) := by decide +kernel
theorem dX5_digest_25 : decode cX5_digest 25 = .ok (.i2l, 1) := by decide +kernel
theorem dX5_digest_26 : decode cX5_digest 26 = .ok (.ladd, 1) := by decide +kernel
theorem dX5_digest_27 : decode cX5_digest 27 = .ok (.lstore_n 1, 1) := by decide +kernel
theorem dX5_digest_28 : decode cX5_digest 28 = .ok (.iinc 3 1, 3) := by decide +kernel
theorem dX5_digest_31 : decode cX5_digest 31 = .ok (.goto (-25), 3) := by decide +kernel
theorem dX5_digest_34 : decode cX5_digest 34 = .ok (.iconst 0, 1) := by decide +kernel
theorem dX5_digest_35 : decode cX5_digest 35 = .ok (.istore_n 3, 1) := by decide +kernel
theorem dX5_digest_36 : decode cX5_digest 36 = .ok (.iload_n 3, 1) := by decide +kernel
theorem dX5_digest_37 : decode cX5_digest 37 = .ok (.aload_n 0, 1) := by decide +kernel
theorem dX5_digest_38 : decode cX5_digest 38 = .ok (.getfield 19, 3) := by decide +kernel
theorem dX5_digest_41 : decode cX5_digest 41 = .ok (.getfield 42, 3) := by decide +kernel
theorem dX5_digest_44 : decode cX5_digest 44 = .ok (.invokevirtual 46, 3) := by decide +kernel
theorem dX5_digest_47 : decode cX5_digest 47 = .ok (.if_icmp .ge 52, 3) := by decide +kernel
theorem dX5_digest_50 : decode cX5_digest 50 = .ok (.iconst 0, 1) := by decide +kernel
theorem dX5_digest_51 : decode cX5_digest 51 = .ok (.istore 4, 2) := by decide +kernel
theorem dX5_digest_53 : decode cX5_digest 53 = .ok (.iload 4, 2) := by decide +kernel
theorem dX5_digest_55 : decode cX5_digest 55 = .ok (.bipush 6, 2) := by decide +kernel
theorem dX5_digest_57 : decode cX5_digest 57 = .ok (.if_icmp .gt 36, 3) := by decide +kernel
theorem dX5_digest_60 : decode cX5_digest 60 = .ok (.lload_n 1, 1) := by decide +kernel
theorem dX5_digest_61 : decode cX5_digest 61 = .ok (.ldc2_w 190, 3) := by decide +kernel
theorem dX5_digest_64 : decode cX5_digest 64 = .ok (.lmul, 1) := by decide +kernel
theorem dX5_digest_65 : decode cX5_digest 65 = .ok (.aload_n 0, 1) := by decide +kernel
theorem dX5_digest_66 : decode cX5_digest 66 = .ok (.getfield 19, 3) := by decide +kernel
theorem dX5_digest_69 : decode cX5_digest 69 = .ok (.getfield 42, 3) := by decide +kernel
theorem dX5_digest_72 : decode cX5_digest 72 = .ok (.iload_n 3, 1) := by decide +kernel
theorem dX5_digest_73 : decode cX5_digest 73 = .ok (.invokevirtual 78, 3) := by decide +kernel
theorem dX5_digest_76 : decode cX5_digest 76 = .ok (.checkcast 56, 3) := by decide +kernel
theorem dX5_digest_79 : decode cX5_digest 79 = .ok (.iload 4, 2) := by decide +kernel
theorem dX5_digest_81 : decode cX5_digest 81 = .ok (.invokevirtual 108, 3) := by decide +kernel
theorem dX5_digest_84 : decode cX5_digest 84 = .ok (.i2l, 1) := by decide +kernel
theorem dX5_digest_85 : decode cX5_digest 85 = .ok (.ladd, 1) := by decide +kernel
theorem dX5_digest_86 : decode cX5_digest 86 = .ok (.lstore_n 1, 1) := by decide +kernel
theorem dX5_digest_87 : decode cX5_digest 87 = .ok (.iinc 4 1, 3) := by decide +kernel
theorem dX5_digest_90 : decode cX5_digest 90 = .ok (.goto (-37), 3) := by decide +kernel
theorem dX5_digest_93 : decode cX5_digest 93 = .ok (.iinc 3 1, 3) := by decide +kernel
theorem dX5_digest_96 : decode cX5_digest 96 = .ok (.goto (-60), 3) := by decide +kernel
theorem dX5_digest_99 : decode cX5_digest 99 = .ok (.iconst 0, 1) := by decide +kernel
theorem dX5_digest_100 : decode cX5_digest 100 = .ok (.istore_n 3, 1) := by decide +kernel
theorem dX5_digest_101 : decode cX5_digest 101 = .ok (.iload_n 3, 1) := by decide +kernel
theorem dX5_digest_102 : decode cX5_digest 102 = .ok (.aload_n 0, 1) := by decide +kernel
theorem dX5_digest_103 : decode cX5_digest 103 = .ok (.getfield 19, 3) := by decide +kernel
theorem dX5_digest_106 : decode cX5_digest 106 = .ok (.getfield 67, 3) := by decide +kernel
theorem dX5_digest_109 : decode cX5_digest 109 = .ok (.invokevirtual 46, 3) := by decide +kernel
theorem dX5_digest_112 : decode cX5_digest 112 = .ok (.if_icmp .ge 59, 3) := by decide +kernel
theorem dX5_digest_115 : decode cX5_digest 115 = .ok (.lload_n 1, 1) := by decide +kernel
theorem dX5_digest_116 : decode cX5_digest 116 = .ok (.ldc2_w 190, 3) := by decide +kernel
theorem dX5_digest_119 : decode cX5_digest 119 = .ok (.lmul, 1) := by decide +kernel
theorem dX5_digest_120 : decode cX5_digest 120 = .ok (.aload_n 0, 1) := by decide +kernel
theorem dX5_digest_121 : decode cX5_digest 121 = .ok (.getfield 19, 3) := by decide +kernel
theorem dX5_digest_124 : decode cX5_digest 124 = .ok (.getfield 67, 3) := by decide +kernel
theorem dX5_digest_127 : decode cX5_digest 127 = .ok (.iload_n 3, 1) := by decide +kernel
theorem dX5_digest_128 : decode cX5_digest 128 = .ok (.invokevirtual 78, 3) := by decide +kernel
theorem dX5_digest_131 : decode cX5_digest 131 = .ok (.checkcast 70, 3) := by decide +kernel
theorem dX5_digest_134 : decode cX5_digest 134 = .ok (.getfield 192, 3) := by decide +kernel
theorem dX5_digest_137 : decode cX5_digest 137 = .ok (.i2l, 1) := by decide +kernel
theorem dX5_digest_138 : decode cX5_digest 138 = .ok (.ladd, 1) := by decide +kernel
theorem dX5_digest_139 : decode cX5_digest 139 = .ok (.lstore_n 1, 1) := by decide +kernel
theorem dX5_digest_140 : decode cX5_digest 140 = .ok (.lload_n 1, 1) := by decide +kernel
theorem dX5_digest_141 : decode cX5_digest 141 = .ok (.ldc2_w 190, 3) := by decide +kernel
theorem dX5_digest_144 : decode cX5_digest 144 = .ok (.lmul, 1) := by decide +kernel
theorem dX5_digest_145 : decode cX5_digest 145 = .ok (.aload_n 0, 1) := by decide +kernel
theorem dX5_digest_146 : decode cX5_digest 146 = .ok (.getfield 19, 3) := by decide +kernel
theorem dX5_digest_149 : decode cX5_digest 149 = .ok (.getfield 67, 3) := by decide +kernel
theorem dX5_digest_152 : decode cX5_digest 152 = .ok (.iload_n 3, 1) := by decide +kernel
theorem dX5_digest_153 : decode cX5_digest 153 = .ok (.invokevirtual 78, 3) := by decide +kernel
theorem dX5_digest_156 : decode cX5_digest 156 = .ok (.checkcast 70, 3) := by decide +kernel
theorem dX5_digest_159 : decode cX5_digest 159 = .ok (.getfield 167, 3) := by decide +kernel
theorem dX5_digest_162 : decode cX5_digest 162 = .ok (.i2l, 1) := by decide +kernel
theorem dX5_digest_163 : decode cX5_digest 163 = .ok (.ladd, 1) := by decide +kernel
theorem dX5_digest_164 : decode cX5_digest 164 = .ok (.lstore_n 1, 1) := by decide +kernel
theorem dX5_digest_165 : decode cX5_digest 165 = .ok (.iinc 3 1, 3) := by decide +kernel
theorem dX5_digest_168 : decode cX5_digest 168 = .ok (.goto (-67), 3) := by decide +kernel
theorem dX5_digest_171 : decode cX5_digest 171 = .ok (.iconst 0, 1) := by decide +kernel
theorem dX5_digest_172 : decode cX5_digest 172 = .ok (.istore_n 3, 1) := by decide +kernel
theorem dX5_digest_173 : decode cX5_digest 173 = .ok (.iload_n 3, 1) := by decide +kernel
theorem dX5_digest_174 : decode cX5_digest 174 = .ok (.aload_n 0, 1) := by decide +kernel
theorem dX5_digest_175 : decode cX5_digest 175 = .ok (.getfield 19, 3) := by decide +kernel
theorem dX5_digest_178 : decode cX5_digest 178 = .ok (.getfield 114, 3) := by decide +kernel
theorem dX5_digest_181 : decode cX5_digest 181 = .ok (.invokevirtual 46, 3) := by decide +kernel
theorem dX5_digest_184 : decode cX5_digest 184 = .ok (.if_icmp .ge 56, 3) := by decide +kernel
theorem dX5_digest_187 : decode cX5_digest 187 = .ok (.iconst 0, 1) := by decide +kernel
theorem dX5_digest_188 : decode cX5_digest 188 = .ok (.istore 4, 2) := by decide +kernel
theorem dX5_digest_190 : decode cX5_digest 190 = .ok (.iload 4, 2) := by decide +kernel
theorem dX5_digest_192 : decode cX5_digest 192 = .ok (.bipush 9, 2) := by decide +kernel
theorem dX5_digest_194 : decode cX5_digest 194 = .ok (.if_icmp .gt 40, 3) := by decide +kernel
theorem dX5_digest_197 : decode cX5_digest 197 = .ok (.lload_n 1, 1) := by decide +kernel
theorem dX5_digest_198 : decode cX5_digest 198 = .ok (.ldc2_w 190, 3) := by decide +kernel
theorem dX5_digest_201 : decode cX5_digest 201 = .ok (.lmul, 1) := by decide +kernel
theorem dX5_digest_202 : decode cX5_digest 202 = .ok (.aload_n 0, 1) := by decide +kernel
theorem dX5_digest_203 : decode cX5_digest 203 = .ok (.getfield 19, 3) := by decide +kernel
theorem dX5_digest_206 : decode cX5_digest 206 = .ok (.aload_n 0, 1) := by decide +kernel
theorem dX5_digest_207 : decode cX5_digest 207 = .ok (.getfield 19, 3) := by decide +kernel
theorem dX5_digest_210 : decode cX5_digest 210 = .ok (.getfield 114, 3) := by decide +kernel
theorem dX5_digest_213 : decode cX5_digest 213 = .ok (.iload_n 3, 1) := by decide +kernel
theorem dX5_digest_214 : decode cX5_digest 214 = .ok (.invokevirtual 78, 3) := by decide +kernel
theorem dX5_digest_217 : decode cX5_digest 217 = .ok (.checkcast 117, 3) := by decide +kernel
theorem dX5_digest_220 : decode cX5_digest 220 = .ok (.iload 4, 2) := by decide +kernel
theorem dX5_digest_222 : decode cX5_digest 222 = .ok (.invokevirtual 156, 3) := by decide +kernel
theorem dX5_digest_225 : decode cX5_digest 225 = .ok (.i2l, 1) := by decide +kernel
theorem dX5_digest_226 : decode cX5_digest 226 = .ok (.ladd, 1) := by decide +kernel
theorem dX5_digest_227 : decode cX5_digest 227 = .ok (.lstore_n 1, 1) := by decide +kernel
theorem dX5_digest_228 : decode cX5_digest 228 = .ok (.iinc 4 1, 3) := by decide +kernel
theorem dX5_digest_231 : decode cX5_digest 231 = .ok (.goto (-41), 3) := by decide +kernel
theorem dX5_digest_234 : decode cX5_digest 234 = .ok (.iinc 3 1, 3) := by decide +kernel
theorem dX5_digest_237 : decode cX5_digest 237 = .ok (.goto (-64), 3) := by decide +kernel
theorem dX5_digest_240 : decode cX5_digest 240 = .ok (.lload_n 1, 1) := by decide +kernel
theorem dX5_digest_241 : decode cX5_digest 241 = .ok (.lreturn, 1) := by decide +kernel
theorem dX5_fallenIfAimed_0 : decode cX5_fallenIfAimed 0 = .ok (.aload_n 0, 1) := by decide +kernel
theorem dX5_fallenIfAimed_1 : decode cX5_fallenIfAimed 1 = .ok (.getfield 23, 3) := by decide +kernel
theorem dX5_fallenIfAimed_4 : decode cX5_fallenIfAimed 4 = .ok (.aload_n 0, 1) := by decide +kernel
theorem dX5_fallenIfAimed_5 : decode cX5_fallenIfAimed 5 = .ok (.getfield 19, 3) := by decide +kernel
theorem dX5_fallenIfAimed_8 : decode cX5_fallenIfAimed 8 = .ok (.invokevirtual 174, 3) := by decide +kernel
theorem dX5_fallenIfAimed_11 : decode cX5_fallenIfAimed 11 = .ok (.iload_n 1, 1) := by decide +kernel
theorem dX5_fallenIfAimed_12 : decode cX5_fallenIfAimed 12 = .ok (.ifCond .lt 38, 3) := by decide +kernel
theorem dX5_fallenIfAimed_15 : decode cX5_fallenIfAimed 15 = .ok (.iload_n 1, 1) := by decide +kernel
theorem dX5_fallenIfAimed_16 : decode cX5_fallenIfAimed 16 = .ok (.aload_n 0, 1) := by decide +kernel
theorem dX5_fallenIfAimed_17 : decode cX5_fallenIfAimed 17 = .ok (.getfield 23, 3) := by decide +kernel
theorem dX5_fallenIfAimed_20 : decode cX5_fallenIfAimed 20 = .ok (.getfield 114, 3) := by decide +kernel
theorem dX5_fallenIfAimed_23 : decode cX5_fallenIfAimed 23 = .ok (.invokevirtual 46, 3) := by decide +kernel
theorem dX5_fallenIfAimed_26 : decode cX5_fallenIfAimed 26 = .ok (.if_icmp .ge 24, 3) := by decide +kernel
theorem dX5_fallenIfAimed_29 : decode cX5_fallenIfAimed 29 = .ok (.aload_n 0, 1) := by decide +kernel
theorem dX5_fallenIfAimed_30 : decode cX5_fallenIfAimed 30 = .ok (.getfield 23, 3) := by decide +kernel
theorem dX5_fallenIfAimed_33 : decode cX5_fallenIfAimed 33 = .ok (.getfield 114, 3) := by decide +kernel
theorem dX5_fallenIfAimed_36 : decode cX5_fallenIfAimed 36 = .ok (.iload_n 1, 1) := by decide +kernel
theorem dX5_fallenIfAimed_37 : decode cX5_fallenIfAimed 37 = .ok (.invokevirtual 78, 3) := by decide +kernel
theorem dX5_fallenIfAimed_40 : decode cX5_fallenIfAimed 40 = .ok (.checkcast 117, 3) := by decide +kernel
theorem dX5_fallenIfAimed_43 : decode cX5_fallenIfAimed 43 = .ok (.bipush 100, 2) := by decide +kernel
theorem dX5_fallenIfAimed_45 : decode cX5_fallenIfAimed 45 = .ok (.iload_n 2, 1) := by decide +kernel
theorem dX5_fallenIfAimed_46 : decode cX5_fallenIfAimed 46 = .ok (.iadd, 1) := by decide +kernel
theorem dX5_fallenIfAimed_47 : decode cX5_fallenIfAimed 47 = .ok (.putfield 152, 3) := by decide +kernel
theorem dX5_fallenIfAimed_50 : decode cX5_fallenIfAimed 50 = .ok (.aload_n 0, 1) := by decide +kernel
theorem dX5_fallenIfAimed_51 : decode cX5_fallenIfAimed 51 = .ok (.getfield 23, 3) := by decide +kernel
theorem dX5_fallenIfAimed_54 : decode cX5_fallenIfAimed 54 = .ok (.iload_n 3, 1) := by decide +kernel
theorem dX5_fallenIfAimed_55 : decode cX5_fallenIfAimed 55 = .ok (.invokevirtual 170, 3) := by decide +kernel
theorem dX5_fallenIfAimed_58 : decode cX5_fallenIfAimed 58 = .ok (.pop, 1) := by decide +kernel
theorem dX5_fallenIfAimed_59 : decode cX5_fallenIfAimed 59 = .ok (.aload_n 0, 1) := by decide +kernel
theorem dX5_fallenIfAimed_60 : decode cX5_fallenIfAimed 60 = .ok (.getfield 23, 3) := by decide +kernel
theorem dX5_fallenIfAimed_63 : decode cX5_fallenIfAimed 63 = .ok (.iconst 3, 1) := by decide +kernel
theorem dX5_fallenIfAimed_64 : decode cX5_fallenIfAimed 64 = .ok (.invokevirtual 89, 3) := by decide +kernel
theorem dX5_fallenIfAimed_67 : decode cX5_fallenIfAimed 67 = .ok (.ireturn, 1) := by decide +kernel
theorem dX5_isFree_0 : decode cX5_isFree 0 = .ok (.aload_n 0, 1) := by decide +kernel
theorem dX5_isFree_1 : decode cX5_isFree 1 = .ok (.getfield 12, 3) := by decide +kernel
theorem dX5_isFree_4 : decode cX5_isFree 4 = .ok (.iload_n 1, 1) := by decide +kernel
theorem dX5_isFree_5 : decode cX5_isFree 5 = .ok (.invokevirtual 111, 3) := by decide +kernel
theorem dX5_isFree_8 : decode cX5_isFree 8 = .ok (.ifCond .eq 29, 3) := by decide +kernel
theorem dX5_isFree_11 : decode cX5_isFree 11 = .ok (.aload_n 0, 1) := by decide +kernel
theorem dX5_isFree_12 : decode cX5_isFree 12 = .ok (.getfield 19, 3) := by decide +kernel
theorem dX5_isFree_15 : decode cX5_isFree 15 = .ok (.iload_n 1, 1) := by decide +kernel
theorem dX5_isFree_16 : decode cX5_isFree 16 = .ok (.invokevirtual 102, 3) := by decide +kernel
theorem dX5_isFree_19 : decode cX5_isFree 19 = .ok (.ifCond .ne 18, 3) := by decide +kernel
theorem dX5_isFree_22 : decode cX5_isFree 22 = .ok (.aload_n 0, 1) := by decide +kernel
theorem dX5_isFree_23 : decode cX5_isFree 23 = .ok (.getfield 19, 3) := by decide +kernel
theorem dX5_isFree_26 : decode cX5_isFree 26 = .ok (.iload_n 1, 1) := by decide +kernel
theorem dX5_isFree_27 : decode cX5_isFree 27 = .ok (.invokevirtual 193, 3) := by decide +kernel
theorem dX5_isFree_30 : decode cX5_isFree 30 = .ok (.ifCond .ne 7, 3) := by decide +kernel
theorem dX5_isFree_33 : decode cX5_isFree 33 = .ok (.iconst 1, 1) := by decide +kernel
theorem dX5_isFree_34 : decode cX5_isFree 34 = .ok (.goto 4, 3) := by decide +kernel
theorem dX5_isFree_37 : decode cX5_isFree 37 = .ok (.iconst 0, 1) := by decide +kernel
theorem dX5_isFree_38 : decode cX5_isFree 38 = .ok (.ireturn, 1) := by decide +kernel
theorem dX5_requireHouse_0 : decode cX5_requireHouse 0 = .ok (.iload_n 1, 1) := by decide +kernel
theorem dX5_requireHouse_1 : decode cX5_requireHouse 1 = .ok (.ifCond .lt 17, 3) := by decide +kernel
theorem dX5_requireHouse_4 : decode cX5_requireHouse 4 = .ok (.iload_n 1, 1) := by decide +kernel
theorem dX5_requireHouse_5 : decode cX5_requireHouse 5 = .ok (.aload_n 0, 1) := by decide +kernel
theorem dX5_requireHouse_6 : decode cX5_requireHouse 6 = .ok (.getfield 19, 3) := by decide +kernel
theorem dX5_requireHouse_9 : decode cX5_requireHouse 9 = .ok (.getfield 42, 3) := by decide +kernel
theorem dX5_requireHouse_12 : decode cX5_requireHouse 12 = .ok (.invokevirtual 46, 3) := by decide +kernel
theorem dX5_requireHouse_15 : decode cX5_requireHouse 15 = .ok (.if_icmp .lt 13, 3) := by decide +kernel
theorem dX5_requireHouse_18 : decode cX5_requireHouse 18 = .ok (.new 160, 3) := by decide +kernel
theorem dX5_requireHouse_21 : decode cX5_requireHouse 21 = .ok (.dup, 1) := by decide +kernel
theorem dX5_requireHouse_22 : decode cX5_requireHouse 22 = .ok (.ldc 196, 2) := by decide +kernel
theorem dX5_requireHouse_24 : decode cX5_requireHouse 24 = .ok (.invokespecial 164, 3) := by decide +kernel
theorem dX5_requireHouse_27 : decode cX5_requireHouse 27 = .ok (.athrow, 1) := by decide +kernel
theorem dX5_requireHouse_28 : decode cX5_requireHouse 28 = .ok (.return_, 1) := by decide +kernel
theorem dX5_requireEngine_0 : decode cX5_requireEngine 0 = .ok (.iload_n 1, 1) := by decide +kernel
theorem dX5_requireEngine_1 : decode cX5_requireEngine 1 = .ok (.ifCond .lt 17, 3) := by decide +kernel
theorem dX5_requireEngine_4 : decode cX5_requireEngine 4 = .ok (.iload_n 1, 1) := by decide +kernel
theorem dX5_requireEngine_5 : decode cX5_requireEngine 5 = .ok (.aload_n 0, 1) := by decide +kernel
theorem dX5_requireEngine_6 : decode cX5_requireEngine 6 = .ok (.getfield 19, 3) := by decide +kernel
theorem dX5_requireEngine_9 : decode cX5_requireEngine 9 = .ok (.getfield 114, 3) := by decide +kernel
theorem dX5_requireEngine_12 : decode cX5_requireEngine 12 = .ok (.invokevirtual 46, 3) := by decide +kernel
theorem dX5_requireEngine_15 : decode cX5_requireEngine 15 = .ok (.if_icmp .lt 13, 3) := by decide +kernel
theorem dX5_requireEngine_18 : decode cX5_requireEngine 18 = .ok (.new 160, 3) := by decide +kernel
theorem dX5_requireEngine_21 : decode cX5_requireEngine 21 = .ok (.dup, 1) := by decide +kernel
theorem dX5_requireEngine_22 : decode cX5_requireEngine 22 = .ok (.ldc 198, 2) := by decide +kernel
theorem dX5_requireEngine_24 : decode cX5_requireEngine 24 = .ok (.invokespecial 164, 3) := by decide +kernel
theorem dX5_requireEngine_27 : decode cX5_requireEngine 27 = .ok (.athrow, 1) := by decide +kernel
theorem dX5_requireEngine_28 : decode cX5_requireEngine 28 = .ok (.return_, 1) := by decide +kernel
theorem dX5_requireCell_0 : decode cX5_requireCell 0 = .ok (.iload_n 0, 1) := by decide +kernel
theorem dX5_requireCell_1 : decode cX5_requireCell 1 = .ok (.iload_n 1, 1) := by decide +kernel
theorem dX5_requireCell_2 : decode cX5_requireCell 2 = .ok (.invokestatic 200, 3) := by decide +kernel
theorem dX5_requireCell_5 : decode cX5_requireCell 5 = .ok (.ifCond .ne 13, 3) := by decide +kernel
theorem dX5_requireCell_8 : decode cX5_requireCell 8 = .ok (.new 160, 3) := by decide +kernel
theorem dX5_requireCell_11 : decode cX5_requireCell 11 = .ok (.dup, 1) := by decide +kernel
theorem dX5_requireCell_12 : decode cX5_requireCell 12 = .ok (.ldc 203, 2) := by decide +kernel
theorem dX5_requireCell_14 : decode cX5_requireCell 14 = .ok (.invokespecial 164, 3) := by decide +kernel
theorem dX5_requireCell_17 : decode cX5_requireCell 17 = .ok (.athrow, 1) := by decide +kernel
theorem dX5_requireCell_18 : decode cX5_requireCell 18 = .ok (.return_, 1) := by decide +kernel
theorem dX5_requireQuestion_0 : decode cX5_requireQuestion 0 = .ok (.iload_n 0, 1) := by decide +kernel
theorem dX5_requireQuestion_1 : decode cX5_requireQuestion 1 = .ok (.ifCond .lt 8, 3) := by decide +kernel
theorem dX5_requireQuestion_4 : decode cX5_requireQuestion 4 = .ok (.iload_n 0, 1) := by decide +kernel
theorem dX5_requireQuestion_5 : decode cX5_requireQuestion 5 = .ok (.iload_n 1, 1) := by decide +kernel
theorem dX5_requireQuestion_6 : decode cX5_requireQuestion 6 = .ok (.if_icmp .le 13, 3) := by decide +kernel
theorem dX5_requireQuestion_9 : decode cX5_requireQuestion 9 = .ok (.new 160, 3) := by decide +kernel
theorem dX5_requireQuestion_12 : decode cX5_requireQuestion 12 = .ok (.dup, 1) := by decide +kernel
theorem dX5_requireQuestion_13 : decode cX5_requireQuestion 13 = .ok (.ldc 205, 2) := by decide +kernel
theorem dX5_requireQuestion_15 : decode cX5_requireQuestion 15 = .ok (.invokespecial 164, 3) := by decide +kernel
theorem dX5_requireQuestion_18 : decode cX5_requireQuestion 18 = .ok (.athrow, 1) := by decide +kernel
theorem dX5_requireQuestion_19 : decode cX5_requireQuestion 19 = .ok (.return_, 1) := by decide +kernel
theorem dX5_requireRange_0 : decode cX5_requireRange 0 = .ok (.iload_n 0, 1) := by decide +kernel
theorem dX5_requireRange_1 : decode cX5_requireRange 1 = .ok (.iload_n 1, 1) := by decide +kernel
theorem dX5_requireRange_2 : decode cX5_requireRange 2 = .ok (.if_icmp .lt 8, 3) := by decide +kernel
theorem dX5_requireRange_5 : decode cX5_requireRange 5 = .ok (.iload_n 0, 1) := by decide +kernel
theorem dX5_requireRange_6 : decode cX5_requireRange 6 = .ok (.iload_n 2, 1) := by decide +kernel
theorem dX5_requireRange_7 : decode cX5_requireRange 7 = .ok (.if_icmp .le 13, 3) := by decide +kernel
theorem dX5_requireRange_10 : decode cX5_requireRange 10 = .ok (.new 207, 3) := by decide +kernel
theorem dX5_requireRange_13 : decode cX5_requireRange 13 = .ok (.dup, 1) := by decide +kernel
theorem dX5_requireRange_14 : decode cX5_requireRange 14 = .ok (.ldc 209, 2) := by decide +kernel
theorem dX5_requireRange_16 : decode cX5_requireRange 16 = .ok (.invokespecial 211, 3) := by decide +kernel
theorem dX5_requireRange_19 : decode cX5_requireRange 19 = .ok (.athrow, 1) := by decide +kernel
theorem dX5_requireRange_20 : decode cX5_requireRange 20 = .ok (.return_, 1) := by decide +kernel
theorem dX5_requireState_0 : decode cX5_requireState 0 = .ok (.iload_n 0, 1) := by decide +kernel
theorem dX5_requireState_1 : decode cX5_requireState 1 = .ok (.ifCond .ne 13, 3) := by decide +kernel
theorem dX5_requireState_4 : decode cX5_requireState 4 = .ok (.new 212, 3) := by decide +kernel
theorem dX5_requireState_7 : decode cX5_requireState 7 = .ok (.dup, 1) := by decide +kernel
theorem dX5_requireState_8 : decode cX5_requireState 8 = .ok (.ldc 214, 2) := by decide +kernel
theorem dX5_requireState_10 : decode cX5_requireState 10 = .ok (.invokespecial 216, 3) := by decide +kernel
theorem dX5_requireState_13 : decode cX5_requireState 13 = .ok (.athrow, 1) := by decide +kernel
theorem dX5_requireState_14 : decode cX5_requireState 14 = .ok (.return_, 1) := by decide +kernel
theorem dX5_isOnMap_0 : decode cX5_isOnMap 0 = .ok (.iload_n 0, 1) := by decide +kernel
theorem dX5_isOnMap_1 : decode cX5_isOnMap 1 = .ok (.ifCond .lt 23, 3) := by decide +kernel
theorem dX5_isOnMap_4 : decode cX5_isOnMap 4 = .ok (.iload_n 0, 1) := by decide +kernel
theorem dX5_isOnMap_5 : decode cX5_isOnMap 5 = .ok (.bipush 14, 2) := by decide +kernel
theorem dX5_isOnMap_7 : decode cX5_isOnMap 7 = .ok (.if_icmp .ge 17, 3) := by decide +kernel
theorem dX5_isOnMap_10 : decode cX5_isOnMap 10 = .ok (.iload_n 1, 1) := by decide +kernel
theorem dX5_isOnMap_11 : decode cX5_isOnMap 11 = .ok (.ifCond .lt 13, 3) := by decide +kernel
theorem dX5_isOnMap_14 : decode cX5_isOnMap 14 = .ok (.iload_n 1, 1) := by decide +kernel
theorem dX5_isOnMap_15 : decode cX5_isOnMap 15 = .ok (.bipush 10, 2) := by decide +kernel
theorem dX5_isOnMap_17 : decode cX5_isOnMap 17 = .ok (.if_icmp .ge 7, 3) := by decide +kernel
theorem dX5_isOnMap_20 : decode cX5_isOnMap 20 = .ok (.iconst 1, 1) := by decide +kernel
theorem dX5_isOnMap_21 : decode cX5_isOnMap 21 = .ok (.goto 4, 3) := by decide +kernel
theorem dX5_isOnMap_24 : decode cX5_isOnMap 24 = .ok (.iconst 0, 1) := by decide +kernel
theorem dX5_isOnMap_25 : decode cX5_isOnMap 25 = .ok (.ireturn, 1) := by decide +kernel
theorem dX5_cellAt_0 : decode cX5_cellAt 0 = .ok (.iload_n 0, 1) := by decide +kernel
theorem dX5_cellAt_1 : decode cX5_cellAt 1 = .ok (.bipush 14, 2) := by decide +kernel
theorem dX5_cellAt_3 : decode cX5_cellAt 3 = .ok (.iload_n 1, 1) := by decide +kernel
theorem dX5_cellAt_4 : decode cX5_cellAt 4 = .ok (.imul, 1) := by decide +kernel
theorem dX5_cellAt_5 : decode cX5_cellAt 5 = .ok (.iadd, 1) := by decide +kernel
theorem dX5_cellAt_6 : decode cX5_cellAt 6 = .ok (.ireturn, 1) := by decide +kernel
theorem dX5_distance_0 : decode cX5_distance 0 = .ok (.iload_n 0, 1) := by decide +kernel
theorem dX5_distance_1 : decode cX5_distance 1 = .ok (.bipush 14, 2) := by decide +kernel
theorem dX5_distance_3 : decode cX5_distance 3 = .ok (.irem, 1) := by decide +kernel
theorem dX5_distance_4 : decode cX5_distance 4 = .ok (.iload_n 1, 1) := by decide +kernel
theorem dX5_distance_5 : decode cX5_distance 5 = .ok (.bipush 14, 2) := by decide +kernel
theorem dX5_distance_7 : decode cX5_distance 7 = .ok (.irem, 1) := by decide +kernel
theorem dX5_distance_8 : decode cX5_distance 8 = .ok (.isub, 1) := by decide +kernel
theorem dX5_distance_9 : decode cX5_distance 9 = .ok (.invokestatic 217, 3) := by decide +kernel
theorem dX5_distance_12 : decode cX5_distance 12 = .ok (.iload_n 0, 1) := by decide +kernel
theorem dX5_distance_13 : decode cX5_distance 13 = .ok (.bipush 14, 2) := by decide +kernel
theorem dX5_distance_15 : decode cX5_distance 15 = .ok (.idiv, 1) := by decide +kernel
theorem dX5_distance_16 : decode cX5_distance 16 = .ok (.iload_n 1, 1) := by decide +kernel
theorem dX5_distance_17 : decode cX5_distance 17 = .ok (.bipush 14, 2) := by decide +kernel
theorem dX5_distance_19 : decode cX5_distance 19 = .ok (.idiv, 1) := by decide +kernel
theorem dX5_distance_20 : decode cX5_distance 20 = .ok (.isub, 1) := by decide +kernel
theorem dX5_distance_21 : decode cX5_distance 21 = .ok (.invokestatic 217, 3) := by decide +kernel
theorem dX5_distance_24 : decode cX5_distance 24 = .ok (.iadd, 1) := by decide +kernel
theorem dX5_distance_25 : decode cX5_distance 25 = .ok (.ireturn, 1) := by decide +kernel
theorem dX5_areNear_0 : decode cX5_areNear 0 = .ok (.iload_n 0, 1) := by decide +kernel
theorem dX5_areNear_1 : decode cX5_areNear 1 = .ok (.bipush 14, 2) := by decide +kernel
theorem dX5_areNear_3 : decode cX5_areNear 3 = .ok (.irem, 1) := by decide +kernel
theorem dX5_areNear_4 : decode cX5_areNear 4 = .ok (.iload_n 1, 1) := by decide +kernel
theorem dX5_areNear_5 : decode cX5_areNear 5 = .ok (.bipush 14, 2) := by decide +kernel
theorem dX5_areNear_7 : decode cX5_areNear 7 = .ok (.irem, 1) := by decide +kernel
theorem dX5_areNear_8 : decode cX5_areNear 8 = .ok (.isub, 1) := by decide +kernel
theorem dX5_areNear_9 : decode cX5_areNear 9 = .ok (.istore_n 2, 1) := by decide +kernel
theorem dX5_areNear_10 : decode cX5_areNear 10 = .ok (.iload_n 0, 1) := by decide +kernel
theorem dX5_areNear_11 : decode cX5_areNear 11 = .ok (.bipush 14, 2) := by decide +kernel
theorem dX5_areNear_13 : decode cX5_areNear 13 = .ok (.idiv, 1) := by decide +kernel
theorem dX5_areNear_14 : decode cX5_areNear 14 = .ok (.iload_n 1, 1) := by decide +kernel
theorem dX5_areNear_15 : decode cX5_areNear 15 = .ok (.bipush 14, 2) := by decide +kernel
theorem dX5_areNear_17 : decode cX5_areNear 17 = .ok (.idiv, 1) := by decide +kernel
theorem dX5_areNear_18 : decode cX5_areNear 18 = .ok (.isub, 1) := by decide +kernel
theorem dX5_areNear_19 : decode cX5_areNear 19 = .ok (.istore_n 3, 1) := by decide +kernel
theorem dX5_areNear_20 : decode cX5_areNear 20 = .ok (.iload_n 0, 1) := by decide +kernel
theorem dX5_areNear_21 : decode cX5_areNear 21 = .ok (.iload_n 1, 1) := by decide +kernel
theorem dX5_areNear_22 : decode cX5_areNear 22 = .ok (.if_icmp .eq 21, 3) := by decide +kernel
theorem dX5_areNear_25 : decode cX5_areNear 25 = .ok (.iload_n 2, 1) := by decide +kernel
theorem dX5_areNear_26 : decode cX5_areNear 26 = .ok (.iload_n 2, 1) := by decide +kernel
theorem dX5_areNear_27 : decode cX5_areNear 27 = .ok (.imul, 1) := by decide +kernel
theorem dX5_areNear_28 : decode cX5_areNear 28 = .ok (.iconst 1, 1) := by decide +kernel
theorem dX5_areNear_29 : decode cX5_areNear 29 = .ok (.if_icmp .gt 14, 3) := by decide +kernel
theorem dX5_areNear_32 : decode cX5_areNear 32 = .ok (.iload_n 3, 1) := by decide +kernel
theorem dX5_areNear_33 : decode cX5_areNear 33 = .ok (.iload_n 3, 1) := by decide +kernel
theorem dX5_areNear_34 : decode cX5_areNear 34 = .ok (.imul, 1) := by decide +kernel
theorem dX5_areNear_35 : decode cX5_areNear 35 = .ok (.iconst 1, 1) := by decide +kernel
theorem dX5_areNear_36 : decode cX5_areNear 36 = .ok (.if_icmp .gt 7, 3) := by decide +kernel
theorem dX5_areNear_39 : decode cX5_areNear 39 = .ok (.iconst 1, 1) := by decide +kernel
theorem dX5_areNear_40 : decode cX5_areNear 40 = .ok (.goto 4, 3) := by decide +kernel
theorem dX5_areNear_43 : decode cX5_areNear 43 = .ok (.iconst 0, 1) := by decide +kernel
theorem dX5_areNear_44 : decode cX5_areNear 44 = .ok (.ireturn, 1) := by decide +kernel
theorem dX6_init_0 : decode cX6_init 0 = .ok (.aload_n 0, 1) := by decide +kernel
theorem dX6_init_1 : decode cX6_init 1 = .ok (.invokespecial 1, 3) := by decide +kernel
theorem dX6_init_4 : decode cX6_init 4 = .ok (.aload_n 0, 1) := by decide +kernel
theorem dX6_init_5 : decode cX6_init 5 = .ok (.bipush 6, 2) := by decide +kernel
theorem dX6_init_7 : decode cX6_init 7 = .ok (.newarray .int, 2) := by decide +kernel
theorem dX6_init_9 : decode cX6_init 9 = .ok (.putfield 9, 3) := by decide +kernel
theorem dX6_init_12 : decode cX6_init 12 = .ok (.aload_n 0, 1) := by decide +kernel
theorem dX6_init_13 : decode cX6_init 13 = .ok (.bipush 6, 2) := by decide +kernel
theorem dX6_init_15 : decode cX6_init 15 = .ok (.newarray .int, 2) := by decide +kernel
theorem dX6_init_17 : decode cX6_init 17 = .ok (.putfield 13, 3) := by decide +kernel
theorem dX6_init_20 : decode cX6_init 20 = .ok (.aload_n 0, 1) := by decide +kernel
theorem dX6_init_21 : decode cX6_init 21 = .ok (.sipush 210, 3) := by decide +kernel
theorem dX6_init_24 : decode cX6_init 24 = .ok (.newarray .int, 2) := by decide +kernel
theorem dX6_init_26 : decode cX6_init 26 = .ok (.putfield 16, 3) := by decide +kernel
theorem dX6_init_29 : decode cX6_init 29 = .ok (.aload_n 0, 1) := by decide +kernel
theorem dX6_init_30 : decode cX6_init 30 = .ok (.bipush 54, 2) := by decide +kernel
theorem dX6_init_32 : decode cX6_init 32 = .ok (.newarray .int, 2) := by decide +kernel
theorem dX6_init_34 : decode cX6_init 34 = .ok (.putfield 19, 3) := by decide +kernel
theorem dX6_init_37 : decode cX6_init 37 = .ok (.aload_n 0, 1) := by decide +kernel
theorem dX6_init_38 : decode cX6_init 38 = .ok (.iconst 1, 1) := by decide +kernel
theorem dX6_init_39 : decode cX6_init 39 = .ok (.newarray .int, 2) := by decide +kernel
theorem dX6_init_41 : decode cX6_init 41 = .ok (.dup, 1) := by decide +kernel
theorem dX6_init_42 : decode cX6_init 42 = .ok (.iconst 0, 1) := by decide +kernel
theorem dX6_init_43 : decode cX6_init 43 = .ok (.iconst 0, 1) := by decide +kernel
theorem dX6_init_44 : decode cX6_init 44 = .ok (.iastore, 1) := by decide +kernel
theorem dX6_init_45 : decode cX6_init 45 = .ok (.putfield 22, 3) := by decide +kernel
theorem dX6_init_48 : decode cX6_init 48 = .ok (.aload_n 0, 1) := by decide +kernel
theorem dX6_init_49 : decode cX6_init 49 = .ok (.bipush 6, 2) := by decide +kernel
theorem dX6_init_51 : decode cX6_init 51 = .ok (.newarray .int, 2) := by decide +kernel
theorem dX6_init_53 : decode cX6_init 53 = .ok (.putfield 25, 3) := by decide +kernel
theorem dX6_init_56 : decode cX6_init 56 = .ok (.aload_n 0, 1) := by decide +kernel
theorem dX6_init_57 : decode cX6_init 57 = .ok (.bipush 6, 2) := by decide +kernel
theorem dX6_init_59 : decode cX6_init 59 = .ok (.newarray .boolean, 2) := by decide +kernel
theorem dX6_init_61 : decode cX6_init 61 = .ok (.putfield 28, 3) := by decide +kernel
theorem dX6_init_64 : decode cX6_init 64 = .ok (.aload_n 0, 1) := by decide +kernel
theorem dX6_init_65 : decode cX6_init 65 = .ok (.sipush 140, 3) := by decide +kernel
theorem dX6_init_68 : decode cX6_init 68 = .ok (.newarray .int, 2) := by decide +kernel
theorem dX6_init_70 : decode cX6_init 70 = .ok (.putfield 32, 3) := by decide +kernel
theorem dX6_init_73 : decode cX6_init 73 = .ok (.aload_n 0, 1) := by decide +kernel
theorem dX6_init_74 : decode cX6_init 74 = .ok (.bipush 30, 2) := by decide +kernel
theorem dX6_init_76 : decode cX6_init 76 = .ok (.newarray .boolean, 2) := by decide +kernel
theorem dX6_init_78 : decode cX6_init 78 = .ok (.putfield 35, 3) := by decide +kernel
theorem dX6_init_81 : decode cX6_init 81 = .ok (.return_, 1) := by decide +kernel
theorem dX6_thrown_0 : decode cX6_thrown 0 = .ok (.aload_n 0, 1) := by decide +kernel
theorem dX6_thrown_1 : decode cX6_thrown 1 = .ok (.getfield 38, 3) := by decide +kernel
theorem dX6_thrown_4 : decode cX6_thrown 4 = .ok (.ireturn, 1) := by decide +kernel
theorem dX6_fail_0 : decode cX6_fail 0 = .ok (.aload_n 0, 1) := by decide +kernel
theorem dX6_fail_1 : decode cX6_fail 1 = .ok (.iload_n 1, 1) := by decide +kernel
theorem dX6_fail_2 : decode cX6_fail 2 = .ok (.putfield 38, 3) := by decide +kernel
theorem dX6_fail_5 : decode cX6_fail 5 = .ok (.iconst 0, 1) := by decide +kernel
theorem dX6_fail_6 : decode cX6_fail 6 = .ok (.ireturn, 1) := by decide +kernel
theorem dX6_isIn_0 : decode cX6_isIn 0 = .ok (.iload_n 0, 1) := by decide +kernel
theorem dX6_isIn_1 : decode cX6_isIn 1 = .ok (.iload_n 1, 1) := by decide +kernel
theorem dX6_isIn_2 : decode cX6_isIn 2 = .ok (.if_icmp .lt 12, 3) := by decide +kernel
theorem dX6_isIn_5 : decode cX6_isIn 5 = .ok (.iload_n 0, 1) := by decide +kernel
theorem dX6_isIn_6 : decode cX6_isIn 6 = .ok (.iload_n 2, 1) := by decide +kernel
theorem dX6_isIn_7 : decode cX6_isIn 7 = .ok (.if_icmp .gt 7, 3) := by decide +kernel
theorem dX6_isIn_10 : decode cX6_isIn 10 = .ok (.iconst 1, 1) := by decide +kernel
theorem dX6_isIn_11 : decode cX6_isIn 11 = .ok (.goto 4, 3) := by decide +kernel
theorem dX6_isIn_14 : decode cX6_isIn 14 = .ok (.iconst 0, 1) := by decide +kernel
theorem dX6_isIn_15 : decode cX6_isIn 15 = .ok (.ireturn, 1) := by decide +kernel
theorem dX6_isCell_0 : decode cX6_isCell 0 = .ok (.iload_n 0, 1) := by decide +kernel
theorem dX6_isCell_1 : decode cX6_isCell 1 = .ok (.iconst 0, 1) := by decide +kernel
theorem dX6_isCell_2 : decode cX6_isCell 2 = .ok (.bipush 13, 2) := by decide +kernel
theorem dX6_isCell_4 : decode cX6_isCell 4 = .ok (.invokestatic 42, 3) := by decide +kernel
theorem dX6_isCell_7 : decode cX6_isCell 7 = .ok (.ifCond .eq 17, 3) := by decide +kernel
theorem dX6_isCell_10 : decode cX6_isCell 10 = .ok (.iload_n 1, 1) := by decide +kernel
theorem dX6_isCell_11 : decode cX6_isCell 11 = .ok (.iconst 0, 1) := by decide +kernel
theorem dX6_isCell_12 : decode cX6_isCell 12 = .ok (.bipush 9, 2) := by decide +kernel
theorem dX6_isCell_14 : decode cX6_isCell 14 = .ok (.invokestatic 42, 3) := by decide +kernel
theorem dX6_isCell_17 : decode cX6_isCell 17 = .ok (.ifCond .eq 7, 3) := by decide +kernel
theorem dX6_isCell_20 : decode cX6_isCell 20 = .ok (.iconst 1, 1) := by decide +kernel
theorem dX6_isCell_21 : decode cX6_isCell 21 = .ok (.goto 4, 3) := by decide +kernel
theorem dX6_isCell_24 : decode cX6_isCell 24 = .ok (.iconst 0, 1) := by decide +kernel
theorem dX6_isCell_25 : decode cX6_isCell 25 = .ok (.ireturn, 1) := by decide +kernel
theorem dX6_columns_0 : decode cX6_columns 0 = .ok (.iload_n 0, 1) := by decide +kernel
theorem dX6_columns_1 : decode cX6_columns 1 = .ok (.bipush 14, 2) := by decide +kernel
theorem dX6_columns_3 : decode cX6_columns 3 = .ok (.irem, 1) := by decide +kernel
theorem dX6_columns_4 : decode cX6_columns 4 = .ok (.iload_n 1, 1) := by decide +kernel
theorem dX6_columns_5 : decode cX6_columns 5 = .ok (.bipush 14, 2) := by decide +kernel
theorem dX6_columns_7 : decode cX6_columns 7 = .ok (.irem, 1) := by decide +kernel
theorem dX6_columns_8 : decode cX6_columns 8 = .ok (.isub, 1) := by decide +kernel
theorem dX6_columns_9 : decode cX6_columns 9 = .ok (.invokestatic 46, 3) := by decide +kernel
theorem dX6_columns_12 : decode cX6_columns 12 = .ok (.ireturn, 1) := by decide +kernel
theorem dX6_rows_0 : decode cX6_rows 0 = .ok (.iload_n 0, 1) := by decide +kernel
theorem dX6_rows_1 : decode cX6_rows 1 = .ok (.bipush 14, 2) := by decide +kernel
theorem dX6_rows_3 : decode cX6_rows 3 = .ok (.idiv, 1) := by decide +kernel
theorem dX6_rows_4 : decode cX6_rows 4 = .ok (.iload_n 1, 1) := by decide +kernel
theorem dX6_rows_5 : decode cX6_rows 5 = .ok (.bipush 14, 2) := by decide +kernel
theorem dX6_rows_7 : decode cX6_rows 7 = .ok (.idiv, 1) := by decide +kernel
theorem dX6_rows_8 : decode cX6_rows 8 = .ok (.isub, 1) := by decide +kernel
theorem dX6_rows_9 : decode cX6_rows 9 = .ok (.invokestatic 46, 3) := by decide +kernel
theorem dX6_rows_12 : decode cX6_rows 12 = .ok (.ireturn, 1) := by decide +kernel
theorem dX6_isNear_0 : decode cX6_isNear 0 = .ok (.iload_n 0, 1) := by decide +kernel
theorem dX6_isNear_1 : decode cX6_isNear 1 = .ok (.iload_n 1, 1) := by decide +kernel
theorem dX6_isNear_2 : decode cX6_isNear 2 = .ok (.if_icmp .eq 25, 3) := by decide +kernel
theorem dX6_isNear_5 : decode cX6_isNear 5 = .ok (.iload_n 0, 1) := by decide +kernel
theorem dX6_isNear_6 : decode cX6_isNear 6 = .ok (.iload_n 1, 1) := by decide +kernel
theorem dX6_isNear_7 : decode cX6_isNear 7 = .ok (.invokestatic 52, 3) := by decide +kernel
theorem dX6_isNear_10 : decode cX6_isNear 10 = .ok (.iconst 1, 1) := by decide +kernel
theorem dX6_isNear_11 : decode cX6_isNear 11 = .ok (.if_icmp .gt 16, 3) := by decide +kernel
theorem dX6_isNear_14 : decode cX6_isNear 14 = .ok (.iload_n 0, 1) := by decide +kernel
theorem dX6_isNear_15 : decode cX6_isNear 15 = .ok (.iload_n 1, 1) := by decide +kernel
theorem dX6_isNear_16 : decode cX6_isNear 16 = .ok (.invokestatic 56, 3) := by decide +kernel
theorem dX6_isNear_19 : decode cX6_isNear 19 = .ok (.iconst 1, 1) := by decide +kernel
theorem dX6_isNear_20 : decode cX6_isNear 20 = .ok (.if_icmp .gt 7, 3) := by decide +kernel
theorem dX6_isNear_23 : decode cX6_isNear 23 = .ok (.iconst 1, 1) := by decide +kernel
theorem dX6_isNear_24 : decode cX6_isNear 24 = .ok (.goto 4, 3) := by decide +kernel
theorem dX6_isNear_27 : decode cX6_isNear 27 = .ok (.iconst 0, 1) := by decide +kernel
theorem dX6_isNear_28 : decode cX6_isNear 28 = .ok (.ireturn, 1) := by decide +kernel
theorem dX6_far_0 : decode cX6_far 0 = .ok (.iload_n 0, 1) := by decide +kernel
theorem dX6_far_1 : decode cX6_far 1 = .ok (.iload_n 1, 1) := by decide +kernel
theorem dX6_far_2 : decode cX6_far 2 = .ok (.invokestatic 52, 3) := by decide +kernel
theorem dX6_far_5 : decode cX6_far 5 = .ok (.iload_n 0, 1) := by decide +kernel
theorem dX6_far_6 : decode cX6_far 6 = .ok (.iload_n 1, 1) := by decide +kernel
theorem dX6_far_7 : decode cX6_far 7 = .ok (.invokestatic 56, 3) := by decide +kernel
theorem dX6_far_10 : decode cX6_far 10 = .ok (.iadd, 1) := by decide +kernel
theorem dX6_far_11 : decode cX6_far 11 = .ok (.ireturn, 1) := by decide +kernel
theorem dX6_isHouse_0 : decode cX6_isHouse 0 = .ok (.iload_n 1, 1) := by decide +kernel
theorem dX6_isHouse_1 : decode cX6_isHouse 1 = .ok (.iconst 0, 1) := by decide +kernel
theorem dX6_isHouse_2 : decode cX6_isHouse 2 = .ok (.aload_n 0, 1) := by decide +kernel
theorem dX6_isHouse_3 : decode cX6_isHouse 3 = .ok (.getfield 59, 3) := by decide +kernel
theorem dX6_isHouse_6 : decode cX6_isHouse 6 = .ok (.iconst 1, 1) := by decide +kernel
theorem dX6_isHouse_7 : decode cX6_isHouse 7 = .ok (.isub, 1) := by decide +kernel
theorem dX6_isHouse_8 : decode cX6_isHouse 8 = .ok (.invokestatic 42, 3) := by decide +kernel
theorem dX6_isHouse_11 : decode cX6_isHouse 11 = .ok (.ireturn, 1) := by decide +kernel
theorem dX6_isEngine_0 : decode cX6_isEngine 0 = .ok (.iload_n 1, 1) := by decide +kernel
theorem dX6_isEngine_1 : decode cX6_isEngine 1 = .ok (.iconst 0, 1) := by decide +kernel
theorem dX6_isEngine_2 : decode cX6_isEngine 2 = .ok (.aload_n 0, 1) := by decide +kernel
theorem dX6_isEngine_3 : decode cX6_isEngine 3 = .ok (.getfield 62, 3) := by decide +kernel
theorem dX6_isEngine_6 : decode cX6_isEngine 6 = .ok (.iconst 1, 1) := by decide +kernel
theorem dX6_isEngine_7 : decode cX6_isEngine 7 = .ok (.isub, 1) := by decide +kernel
theorem dX6_isEngine_8 : decode cX6_isEngine 8 = .ok (.invokestatic 42, 3) := by decide +kernel
theorem dX6_isEngine_11 : decode cX6_isEngine 11 = .ok (.ireturn, 1) := by decide +kernel
theorem dX6_ho_0 : decode cX6_ho 0 = .ok (.aload_n 0, 1) := by decide +kernel
theorem dX6_ho_1 : decode cX6_ho 1 = .ok (.getfield 16, 3) := by decide +kernel
theorem dX6_ho_4 : decode cX6_ho 4 = .ok (.bipush 7, 2) := by decide +kernel
theorem dX6_ho_6 : decode cX6_ho 6 = .ok (.iload_n 1, 1) := by decide +kernel
theorem dX6_ho_7 : decode cX6_ho 7 = .ok (.imul, 1) := by decide +kernel
theorem dX6_ho_8 : decode cX6_ho 8 = .ok (.iload_n 2, 1) := by decide +kernel
theorem dX6_ho_9 : decode cX6_ho 9 = .ok (.iadd, 1) := by decide +kernel
theorem dX6_ho_10 : decode cX6_ho 10 = .ok (.iaload, 1) := by decide +kernel
theorem dX6_ho_11 : decode cX6_ho 11 = .ok (.ireturn, 1) := by decide +kernel
theorem dX6_setHo_0 : decode cX6_setHo 0 = .ok (.aload_n 0, 1) := by decide +kernel
theorem dX6_setHo_1 : decode cX6_setHo 1 = .ok (.getfield 16, 3) := by decide +kernel
theorem dX6_setHo_4 : decode cX6_setHo 4 = .ok (.bipush 7, 2) := by decide +kernel
theorem dX6_setHo_6 : decode cX6_setHo 6 = .ok (.iload_n 1, 1) := by decide +kernel
theorem dX6_setHo_7 : decode cX6_setHo 7 = .ok (.imul, 1) := by decide +kernel
theorem dX6_setHo_8 : decode cX6_setHo 8 = .ok (.iload_n 2, 1) := by decide +kernel
theorem dX6_setHo_9 : decode cX6_setHo 9 = .ok (.iadd, 1) := by decide +kernel
theorem dX6_setHo_10 : decode cX6_setHo 10 = .ok (.iload_n 3, 1) := by decide +kernel
theorem dX6_setHo_11 : decode cX6_setHo 11 = .ok (.iastore, 1) := by decide +kernel
theorem dX6_setHo_12 : decode cX6_setHo 12 = .ok (.return_, 1) := by decide +kernel
theorem dX6_en_0 : decode cX6_en 0 = .ok (.aload_n 0, 1) := by decide +kernel
theorem dX6_en_1 : decode cX6_en 1 = .ok (.getfield 19, 3) := by decide +kernel
theorem dX6_en_4 : decode cX6_en 4 = .ok (.bipush 9, 2) := by decide +kernel
theorem dX6_en_6 : decode cX6_en 6 = .ok (.iload_n 1, 1) := by decide +kernel
theorem dX6_en_7 : decode cX6_en 7 = .ok (.imul, 1) := by decide +kernel
theorem dX6_en_8 : decode cX6_en 8 = .ok (.iload_n 2, 1) := by decide +kernel
theorem dX6_en_9 : decode cX6_en 9 = .ok (.iadd, 1) := by decide +kernel
theorem dX6_en_10 : decode cX6_en 10 = .ok (.iaload, 1) := by decide +kernel
theorem dX6_en_11 : decode cX6_en 11 = .ok (.ireturn, 1) := by decide +kernel
theorem dX6_setEn_0 : decode cX6_setEn 0 = .ok (.aload_n 0, 1) := by decide +kernel
theorem dX6_setEn_1 : decode cX6_setEn 1 = .ok (.getfield 19, 3) := by decide +kernel
theorem dX6_setEn_4 : decode cX6_setEn 4 = .ok (.bipush 9, 2) := by decide +kernel
theorem dX6_setEn_6 : decode cX6_setEn 6 = .ok (.iload_n 1, 1) := by decide +kernel
theorem dX6_setEn_7 : decode cX6_setEn 7 = .ok (.imul, 1) := by decide +kernel
theorem dX6_setEn_8 : decode cX6_setEn 8 = .ok (.iload_n 2, 1) := by decide +kernel
theorem dX6_setEn_9 : decode cX6_setEn 9 = .ok (.iadd, 1) := by decide +kernel
theorem dX6_setEn_10 : decode cX6_setEn 10 = .ok (.iload_n 3, 1) := by decide +kernel
theorem dX6_setEn_11 : decode cX6_setEn 11 = .ok (.iastore, 1) := by decide +kernel
theorem dX6_setEn_12 : decode cX6_setEn 12 = .ok (.return_, 1) := by decide +kernel
theorem dX6_houseAt_0 : decode cX6_houseAt 0 = .ok (.iconst 0, 1) := by decide +kernel
theorem dX6_houseAt_1 : decode cX6_houseAt 1 = .ok (.istore_n 2, 1) := by decide +kernel
theorem dX6_houseAt_2 : decode cX6_houseAt 2 = .ok (.iload_n 2, 1) := by decide +kernel
theorem dX6_houseAt_3 : decode cX6_houseAt 3 = .ok (.aload_n 0, 1) := by decide +kernel
theorem dX6_houseAt_4 : decode cX6_houseAt 4 = .ok (.getfield 59, 3) := by decide +kernel
theorem dX6_houseAt_7 : decode cX6_houseAt 7 = .ok (.if_icmp .ge 21, 3) := by decide +kernel
theorem dX6_houseAt_10 : decode cX6_houseAt 10 = .ok (.aload_n 0, 1) := by decide +kernel
theorem dX6_houseAt_11 : decode cX6_houseAt 11 = .ok (.iload_n 2, 1) := by decide +kernel
theorem dX6_houseAt_12 : decode cX6_houseAt 12 = .ok (.iconst 0, 1) := by decide +kernel
theorem dX6_houseAt_13 : decode cX6_houseAt 13 = .ok (.invokevirtual 65, 3) := by decide +kernel
theorem dX6_houseAt_16 : decode cX6_houseAt 16 = .ok (.iload_n 1, 1) := by decide +kernel
theorem dX6_houseAt_17 : decode cX6_houseAt 17 = .ok (.if_icmp .ne 5, 3) := by decide +kernel
theorem dX6_houseAt_20 : decode cX6_houseAt 20 = .ok (.iload_n 2, 1) := by decide +kernel
theorem dX6_houseAt_21 : decode cX6_houseAt 21 = .ok (.ireturn, 1) := by decide +kernel
theorem dX6_houseAt_22 : decode cX6_houseAt 22 = .ok (.iinc 2 1, 3) := by decide +kernel
theorem dX6_houseAt_25 : decode cX6_houseAt 25 = .ok (.goto (-23), 3) := by decide +kernel
theorem dX6_houseAt_28 : decode cX6_houseAt 28 = .ok (.iconst (-1), 1) := by decide +kernel
theorem dX6_houseAt_29 : decode cX6_houseAt 29 = .ok (.ireturn, 1) := by decide +kernel
theorem dX6_pondAt_0 : decode cX6_pondAt 0 = .ok (.iconst 0, 1) := by decide +kernel
theorem dX6_pondAt_1 : decode cX6_pondAt 1 = .ok (.istore_n 2, 1) := by decide +kernel
theorem dX6_pondAt_2 : decode cX6_pondAt 2 = .ok (.iload_n 2, 1) := by decide +kernel
theorem dX6_pondAt_3 : decode cX6_pondAt 3 = .ok (.aload_n 0, 1) := by decide +kernel
theorem dX6_pondAt_4 : decode cX6_pondAt 4 = .ok (.getfield 68, 3) := by decide +kernel
theorem dX6_pondAt_7 : decode cX6_pondAt 7 = .ok (.if_icmp .ge 21, 3) := by decide +kernel
theorem dX6_pondAt_10 : decode cX6_pondAt 10 = .ok (.aload_n 0, 1) := by decide +kernel
theorem dX6_pondAt_11 : decode cX6_pondAt 11 = .ok (.getfield 9, 3) := by decide +kernel
theorem dX6_pondAt_14 : decode cX6_pondAt 14 = .ok (.iload_n 2, 1) := by decide +kernel
theorem dX6_pondAt_15 : decode cX6_pondAt 15 = .ok (.iaload, 1) := by decide +kernel
theorem dX6_pondAt_16 : decode cX6_pondAt 16 = .ok (.iload_n 1, 1) := by decide +kernel
theorem dX6_pondAt_17 : decode cX6_pondAt 17 = .ok (.if_icmp .ne 5, 3) := by decide +kernel
theorem dX6_pondAt_20 : decode cX6_pondAt 20 = .ok (.iload_n 2, 1) := by decide +kernel
theorem dX6_pondAt_21 : decode cX6_pondAt 21 = .ok (.ireturn, 1) := by decide +kernel
theorem dX6_pondAt_22 : decode cX6_pondAt 22 = .ok (.iinc 2 1, 3) := by decide +kernel
theorem dX6_pondAt_25 : decode cX6_pondAt 25 = .ok (.goto (-23), 3) := by decide +kernel
theorem dX6_pondAt_28 : decode cX6_pondAt 28 = .ok (.iconst (-1), 1) := by decide +kernel
theorem dX6_pondAt_29 : decode cX6_pondAt 29 = .ok (.ireturn, 1) := by decide +kernel
theorem dX6_isStreet_0 : decode cX6_isStreet 0 = .ok (.aload_n 0, 1) := by decide +kernel
theorem dX6_isStreet_1 : decode cX6_isStreet 1 = .ok (.iload_n 1, 1) := by decide +kernel
theorem dX6_isStreet_2 : decode cX6_isStreet 2 = .ok (.invokevirtual 71, 3) := by decide +kernel
theorem dX6_isStreet_5 : decode cX6_isStreet 5 = .ok (.iconst (-1), 1) := by decide +kernel
theorem dX6_isStreet_6 : decode cX6_isStreet 6 = .ok (.if_icmp .ne 16, 3) := by decide +kernel
theorem dX6_isStreet_9 : decode cX6_isStreet 9 = .ok (.aload_n 0, 1) := by decide +kernel
theorem dX6_isStreet_10 : decode cX6_isStreet 10 = .ok (.iload_n 1, 1) := by decide +kernel
theorem dX6_isStreet_11 : decode cX6_isStreet 11 = .ok (.invokevirtual 74, 3) := by decide +kernel
theorem dX6_isStreet_14 : decode cX6_isStreet 14 = .ok (.iconst (-1), 1) := by decide +kernel
theorem dX6_isStreet_15 : decode cX6_isStreet 15 = .ok (.if_icmp .ne 7, 3) := by decide +kernel
theorem dX6_isStreet_18 : decode cX6_isStreet 18 = .ok (.iconst 1, 1) := by decide +kernel
theorem dX6_isStreet_19 : decode cX6_isStreet 19 = .ok (.goto 4, 3) := by decide +kernel
theorem dX6_isStreet_22 : decode cX6_isStreet 22 = .ok (.iconst 0, 1) := by decide +kernel
theorem dX6_isStreet_23 : decode cX6_isStreet 23 = .ok (.ireturn, 1) := by decide +kernel
theorem dX6_isFree_0 : decode cX6_isFree 0 = .ok (.aload_n 0, 1) := by decide +kernel
theorem dX6_isFree_1 : decode cX6_isFree 1 = .ok (.iload_n 1, 1) := by decide +kernel
theorem dX6_isFree_2 : decode cX6_isFree 2 = .ok (.invokevirtual 77, 3) := by decide +kernel
theorem dX6_isFree_5 : decode cX6_isFree 5 = .ok (.istore_n 2, 1) := by decide +kernel
theorem dX6_isFree_6 : decode cX6_isFree 6 = .ok (.iconst 0, 1) := by decide +kernel
theorem dX6_isFree_7 : decode cX6_isFree 7 = .ok (.istore_n 3, 1) := by decide +kernel
theorem dX6_isFree_8 : decode cX6_isFree 8 = .ok (.iload_n 3, 1) := by decide +kernel
theorem dX6_isFree_9 : decode cX6_isFree 9 = .ok (.aload_n 0, 1) := by decide +kernel
theorem dX6_isFree_10 : decode cX6_isFree 10 = .ok (.getfield 62, 3) := by decide +kernel
theorem dX6_isFree_13 : decode cX6_isFree 13 = .ok (.if_icmp .ge 49, 3) := by decide +kernel
theorem dX6_isFree_16 : decode cX6_isFree 16 = .ok (.iload_n 2, 1) := by decide +kernel
theorem dX6_isFree_17 : decode cX6_isFree 17 = .ok (.ifCond .eq 37, 3) := by decide +kernel
theorem dX6_isFree_20 : decode cX6_isFree 20 = .ok (.aload_n 0, 1) := by decide +kernel
theorem dX6_isFree_21 : decode cX6_isFree 21 = .ok (.iload_n 3, 1) := by decide +kernel
theorem dX6_isFree_22 : decode cX6_isFree 22 = .ok (.iconst 0, 1) := by decide +kernel
theorem dX6_isFree_23 : decode cX6_isFree 23 = .ok (.invokevirtual 81, 3) := by decide +kernel
theorem dX6_isFree_26 : decode cX6_isFree 26 = .ok (.iload_n 1, 1) := by decide +kernel
theorem dX6_isFree_27 : decode cX6_isFree 27 = .ok (.if_icmp .eq 27, 3) := by decide +kernel
theorem dX6_isFree_30 : decode cX6_isFree 30 = .ok (.aload_n 0, 1) := by decide +kernel
theorem dX6_isFree_31 : decode cX6_isFree 31 = .ok (.iload_n 3, 1) := by decide +kernel
theorem dX6_isFree_32 : decode cX6_isFree 32 = .ok (.iconst 5, 1) := by decide +kernel
theorem dX6_isFree_33 : decode cX6_isFree 33 = .ok (.invokevirtual 81, 3) := by decide +kernel
theorem dX6_isFree_36 : decode cX6_isFree 36 = .ok (.ifCond .eq 14, 3) := by decide +kernel
theorem dX6_isFree_39 : decode cX6_isFree 39 = .ok (.aload_n 0, 1) := by decide +kernel
theorem dX6_isFree_40 : decode cX6_isFree 40 = .ok (.iload_n 3, 1) := by decide +kernel
theorem dX6_isFree_41 : decode cX6_isFree 41 = .ok (.bipush 6, 2) := by decide +kernel
theorem dX6_isFree_43 : decode cX6_isFree 43 = .ok (.invokevirtual 81, 3) := by decide +kernel
theorem dX6_isFree_46 : decode cX6_isFree 46 = .ok (.iload_n 1, 1) := by decide +kernel
theorem dX6_isFree_47 : decode cX6_isFree 47 = .ok (.if_icmp .eq 7, 3) := by decide +kernel
theorem dX6_isFree_50 : decode cX6_isFree 50 = .ok (.iconst 1, 1) := by decide +kernel
theorem dX6_isFree_51 : decode cX6_isFree 51 = .ok (.goto 4, 3) := by decide +kernel
theorem dX6_isFree_54 : decode cX6_isFree 54 = .ok (.iconst 0, 1) := by decide +kernel
theorem dX6_isFree_55 : decode cX6_isFree 55 = .ok (.istore_n 2, 1) := by decide +kernel
theorem dX6_isFree_56 : decode cX6_isFree 56 = .ok (.iinc 3 1, 3) := by decide +kernel
theorem dX6_isFree_59 : decode cX6_isFree 59 = .ok (.goto (-51), 3) := by decide +kernel
theorem dX6_isFree_62 : decode cX6_isFree 62 = .ok (.iload_n 2, 1) := by decide +kernel
theorem dX6_isFree_63 : decode cX6_isFree 63 = .ok (.ireturn, 1) := by decide +kernel
theorem dX6_build_0 : decode cX6_build 0 = .ok (.aload_n 0, 1) := by decide +kernel
theorem dX6_build_1 : decode cX6_build 1 = .ok (.iconst 0, 1) := by decide +kernel
theorem dX6_build_2 : decode cX6_build 2 = .ok (.putfield 38, 3) := by decide +kernel
theorem dX6_build_5 : decode cX6_build 5 = .ok (.iload_n 1, 1) := by decide +kernel
theorem dX6_build_6 : decode cX6_build 6 = .ok (.iload_n 2, 1) := by decide +kernel
theorem dX6_build_7 : decode cX6_build 7 = .ok (.invokestatic 84, 3) := by decide +kernel
theorem dX6_build_10 : decode cX6_build 10 = .ok (.ifCond .ne 9, 3) := by decide +kernel
theorem dX6_build_13 : decode cX6_build 13 = .ok (.aload_n 0, 1) := by decide +kernel
theorem dX6_build_14 : decode cX6_build 14 = .ok (.iconst 1, 1) := by decide +kernel
theorem dX6_build_15 : decode cX6_build 15 = .ok (.invokevirtual 88, 3) := by decide +kernel
theorem dX6_build_18 : decode cX6_build 18 = .ok (.ireturn, 1) := by decide +kernel
theorem dX6_build_19 : decode cX6_build 19 = .ok (.iload_n 3, 1) := by decide +kernel
theorem dX6_build_20 : decode cX6_build 20 = .ok (.iconst 1, 1) := by decide +kernel
theorem dX6_build_21 : decode cX6_build 21 = .ok (.bipush 9, 2) := by decide +kernel
theorem dX6_build_23 : decode cX6_build 23 = .ok (.invokestatic 42, 3) := by decide +kernel
theorem dX6_build_26 : decode cX6_build 26 = .ok (.ifCond .eq 14, 3) := by decide +kernel
theorem dX6_build_29 : decode cX6_build 29 = .ok (.iload 4, 2) := by decide +kernel
theorem dX6_build_31 : decode cX6_build 31 = .ok (.iconst 1, 1) := by decide +kernel
theorem dX6_build_32 : decode cX6_build 32 = .ok (.bipush 60, 2) := by decide +kernel
theorem dX6_build_34 : decode cX6_build 34 = .ok (.invokestatic 42, 3) := by decide +kernel
theorem dX6_build_37 : decode cX6_build 37 = .ok (.ifCond .ne 9, 3) := by decide +kernel
theorem dX6_build_40 : decode cX6_build 40 = .ok (.aload_n 0, 1) := by decide +kernel
theorem dX6_build_41 : decode cX6_build 41 = .ok (.iconst 2, 1) := by decide +kernel
theorem dX6_build_42 : decode cX6_build 42 = .ok (.invokevirtual 88, 3) := by decide +kernel
theorem dX6_build_45 : decode cX6_build 45 = .ok (.ireturn, 1) := by decide +kernel
theorem dX6_build_46 : decode cX6_build 46 = .ok (.aload_n 0, 1) := by decide +kernel
theorem dX6_build_47 : decode cX6_build 47 = .ok (.getfield 59, 3) := by decide +kernel
theorem dX6_build_50 : decode cX6_build 50 = .ok (.bipush 30, 2) := by decide +kernel
theorem dX6_build_52 : decode cX6_build 52 = .ok (.if_icmp .eq 16, 3) := by decide +kernel
theorem dX6_build_55 : decode cX6_build 55 = .ok (.aload_n 0, 1) := by decide +kernel
theorem dX6_build_56 : decode cX6_build 56 = .ok (.iload_n 1, 1) := by decide +kernel
theorem dX6_build_57 : decode cX6_build 57 = .ok (.bipush 14, 2) := by decide +kernel
theorem dX6_build_59 : decode cX6_build 59 = .ok (.iload_n 2, 1) := by decide +kernel
theorem dX6_build_60 : decode cX6_build 60 = .ok (.imul, 1) := by decide +kernel
theorem dX6_build_61 : decode cX6_build 61 = .ok (.iadd, 1) := by decide +kernel
theorem dX6_build_62 : decode cX6_build 62 = .ok (.invokevirtual 91, 3) := by decide +kernel
theorem dX6_build_65 : decode cX6_build 65 = .ok (.ifCond .ne 9, 3) := by decide +kernel
theorem dX6_build_68 : decode cX6_build 68 = .ok (.aload_n 0, 1) := by decide +kernel
theorem dX6_build_69 : decode cX6_build 69 = .ok (.iconst 3, 1) := by decide +kernel
theorem dX6_build_70 : decode cX6_build 70 = .ok (.invokevirtual 88, 3) := by decide +kernel
theorem dX6_build_73 : decode cX6_build 73 = .ok (.ireturn, 1) := by decide +kernel
theorem dX6_build_74 : decode cX6_build 74 = .ok (.bipush 7, 2) := by decide +kernel
theorem dX6_build_76 : decode cX6_build 76 = .ok (.newarray .int, 2) := by decide +kernel
theorem dX6_build_78 : decode cX6_build 78 = .ok (.dup, 1) := by decide +kernel
theorem dX6_build_79 : decode cX6_build 79 = .ok (.iconst 0, 1) := by decide +kernel
theorem dX6_build_80 : decode cX6_build 80 = .ok (.iload_n 1, 1) := by decide +kernel
theorem dX6_build_81 : decode cX6_build 81 = .ok (.bipush 14, 2) := by decide +kernel
theorem dX6_build_83 : decode cX6_build 83 = .ok (.iload_n 2, 1) := by decide +kernel
theorem dX6_build_84 : decode cX6_build 84 = .ok (.imul, 1) := by decide +kernel
theorem dX6_build_85 : decode cX6_build 85 = .ok (.iadd, 1) := by decide +kernel
theorem dX6_build_86 : decode cX6_build 86 = .ok (.iastore, 1) := by decide +kernel
theorem dX6_build_87 : decode cX6_build 87 = .ok (.dup, 1) := by decide +kernel
theorem dX6_build_88 : decode cX6_build 88 = .ok (.iconst 1, 1) := by decide +kernel
theorem dX6_build_89 : decode cX6_build 89 = .ok (.iload_n 3, 1) := by decide +kernel
theorem dX6_build_90 : decode cX6_build 90 = .ok (.iastore, 1) := by decide +kernel
theorem dX6_build_91 : decode cX6_build 91 = .ok (.dup, 1) := by decide +kernel
theorem dX6_build_92 : decode cX6_build 92 = .ok (.iconst 2, 1) := by decide +kernel
theorem dX6_build_93 : decode cX6_build 93 = .ok (.iload 4, 2) := by decide +kernel
theorem dX6_build_95 : decode cX6_build 95 = .ok (.iastore, 1) := by decide +kernel
theorem dX6_build_96 : decode cX6_build 96 = .ok (.dup, 1) := by decide +kernel
theorem dX6_build_97 : decode cX6_build 97 = .ok (.iconst 3, 1) := by decide +kernel
theorem dX6_build_98 : decode cX6_build 98 = .ok (.iconst 0, 1) := by decide +kernel
theorem dX6_build_99 : decode cX6_build 99 = .ok (.iastore, 1) := by decide +kernel
theorem dX6_build_100 : decode cX6_build 100 = .ok (.dup, 1) := by decide +kernel
theorem dX6_build_101 : decode cX6_build 101 = .ok (.iconst 4, 1) := by decide +kernel
theorem dX6_build_102 : decode cX6_build 102 = .ok (.iconst 0, 1) := by decide +kernel
theorem dX6_build_103 : decode cX6_build 103 = .ok (.iastore, 1) := by decide +kernel
theorem dX6_build_104 : decode cX6_build 104 = .ok (.dup, 1) := by decide +kernel
theorem dX6_build_105 : decode cX6_build 105 = .ok (.iconst 5, 1) := by decide +kernel
theorem dX6_build_106 : decode cX6_build 106 = .ok (.iconst 0, 1) := by decide +kernel
theorem dX6_build_107 : decode cX6_build 107 = .ok (.iastore, 1) := by decide +kernel
theorem dX6_build_108 : decode cX6_build 108 = .ok (.dup, 1) := by decide +kernel
theorem dX6_build_109 : decode cX6_build 109 = .ok (.bipush 6, 2) := by decide +kernel
theorem dX6_build_111 : decode cX6_build 111 = .ok (.iconst 0, 1) := by decide +kernel
theorem dX6_build_112 : decode cX6_build 112 = .ok (.iastore, 1) := by decide +kernel
theorem dX6_build_113 : decode cX6_build 113 = .ok (.astore 5, 2) := by decide +kernel
theorem dX6_build_115 : decode cX6_build 115 = .ok (.aload 5, 2) := by decide +kernel
theorem dX6_build_117 : decode cX6_build 117 = .ok (.iconst 0, 1) := by decide +kernel
theorem dX6_build_118 : decode cX6_build 118 = .ok (.aload_n 0, 1) := by decide +kernel
theorem dX6_build_119 : decode cX6_build 119 = .ok (.getfield 16, 3) := by decide +kernel
theorem dX6_build_122 : decode cX6_build 122 = .ok (.bipush 7, 2) := by decide +kernel
theorem dX6_build_124 : decode cX6_build 124 = .ok (.aload_n 0, 1) := by decide +kernel
theorem dX6_build_125 : decode cX6_build 125 = .ok (.getfield 59, 3) := by decide +kernel
theorem dX6_build_128 : decode cX6_build 128 = .ok (.imul, 1) := by decide +kernel
theorem dX6_build_129 : decode cX6_build 129 = .ok (.bipush 7, 2) := by decide +kernel
theorem dX6_build_131 : decode cX6_build 131 = .ok (.invokestatic 94, 3) := by decide +kernel
theorem dX6_build_134 : decode cX6_build 134 = .ok (.aload_n 0, 1) := by decide +kernel
theorem dX6_build_135 : decode cX6_build 135 = .ok (.dup, 1) := by decide +kernel
theorem dX6_build_136 : decode cX6_build 136 = .ok (.getfield 59, 3) := by decide +kernel
theorem dX6_build_139 : decode cX6_build 139 = .ok (.iconst 1, 1) := by decide +kernel
theorem dX6_build_140 : decode cX6_build 140 = .ok (.iadd, 1) := by decide +kernel
theorem dX6_build_141 : decode cX6_build 141 = .ok (.putfield 59, 3) := by decide +kernel
theorem dX6_build_144 : decode cX6_build 144 = .ok (.aload_n 0, 1) := by decide +kernel
theorem dX6_build_145 : decode cX6_build 145 = .ok (.getfield 59, 3) := by decide +kernel
theorem dX6_build_148 : decode cX6_build 148 = .ok (.iconst 1, 1) := by decide +kernel
theorem dX6_build_149 : decode cX6_build 149 = .ok (.isub, 1) := by decide +kernel
theorem dX6_build_150 : decode cX6_build 150 = .ok (.ireturn, 1) := by decide +kernel
theorem dX6_dig_0 : decode cX6_dig 0 = .ok (.aload_n 0, 1) := by decide +kernel
theorem dX6_dig_1 : decode cX6_dig 1 = .ok (.iconst 0, 1) := by decide +kernel
theorem dX6_dig_2 : decode cX6_dig 2 = .ok (.putfield 38, 3) := by decide +kernel
theorem dX6_dig_5 : decode cX6_dig 5 = .ok (.iload_n 1, 1) := by decide +kernel
theorem dX6_dig_6 : decode cX6_dig 6 = .ok (.iload_n 2, 1) := by decide +kernel
theorem dX6_dig_7 : decode cX6_dig 7 = .ok (.invokestatic 84, 3) := by decide +kernel
theorem dX6_dig_10 : decode cX6_dig 10 = .ok (.ifCond .ne 9, 3) := by decide +kernel
theorem dX6_dig_13 : decode cX6_dig 13 = .ok (.aload_n 0, 1) := by decide +kernel
theorem dX6_dig_14 : decode cX6_dig 14 = .ok (.iconst 1, 1) := by decide +kernel
theorem dX6_dig_15 : decode cX6_dig 15 = .ok (.invokevirtual 88, 3) := by decide +kernel
theorem dX6_dig_18 : decode cX6_dig 18 = .ok (.ireturn, 1) := by decide +kernel
theorem dX6_dig_19 : decode cX6_dig 19 = .ok (.iload_n 3, 1) := by decide +kernel
theorem dX6_dig_20 : decode cX6_dig 20 = .ok (.iconst 0, 1) := by decide +kernel
theorem dX6_dig_21 : decode cX6_dig 21 = .ok (.sipush 5000, 3) := by decide +kernel
theorem dX6_dig_24 : decode cX6_dig 24 = .ok (.invokestatic 42, 3) := by decide +kernel
theorem dX6_dig_27 : decode cX6_dig 27 = .ok (.ifCond .ne 9, 3) := by decide +kernel
theorem dX6_dig_30 : decode cX6_dig 30 = .ok (.aload_n 0, 1) := by decide +kernel
theorem dX6_dig_31 : decode cX6_dig 31 = .ok (.iconst 2, 1) := by decide +kernel
theorem dX6_dig_32 : decode cX6_dig 32 = .ok (.invokevirtual 88, 3) := by decide +kernel
theorem dX6_dig_35 : decode cX6_dig 35 = .ok (.ireturn, 1) := by decide +kernel
theorem dX6_dig_36 : decode cX6_dig 36 = .ok (.aload_n 0, 1) := by decide +kernel
theorem dX6_dig_37 : decode cX6_dig 37 = .ok (.getfield 68, 3) := by decide +kernel
theorem dX6_dig_40 : decode cX6_dig 40 = .ok (.bipush 6, 2) := by decide +kernel
theorem dX6_dig_42 : decode cX6_dig 42 = .ok (.if_icmp .eq 16, 3) := by decide +kernel
theorem dX6_dig_45 : decode cX6_dig 45 = .ok (.aload_n 0, 1) := by decide +kernel
theorem dX6_dig_46 : decode cX6_dig 46 = .ok (.iload_n 1, 1) := by decide +kernel
theorem dX6_dig_47 : decode cX6_dig 47 = .ok (.bipush 14, 2) := by decide +kernel
theorem dX6_dig_49 : decode cX6_dig 49 = .ok (.iload_n 2, 1) := by decide +kernel
theorem dX6_dig_50 : decode cX6_dig 50 = .ok (.imul, 1) := by decide +kernel
theorem dX6_dig_51 : decode cX6_dig 51 = .ok (.iadd, 1) := by decide +kernel
theorem dX6_dig_52 : decode cX6_dig 52 = .ok (.invokevirtual 91, 3) := by decide +kernel
theorem dX6_dig_55 : decode cX6_dig 55 = .ok (.ifCond .ne 9, 3) := by decide +kernel
theorem dX6_dig_58 : decode cX6_dig 58 = .ok (.aload_n 0, 1) := by decide +kernel
theorem dX6_dig_59 : decode cX6_dig 59 = .ok (.iconst 3, 1) := by decide +kernel
theorem dX6_dig_60 : decode cX6_dig 60 = .ok (.invokevirtual 88, 3) := by decide +kernel
theorem dX6_dig_63 : decode cX6_dig 63 = .ok (.ireturn, 1) := by decide +kernel
theorem dX6_dig_64 : decode cX6_dig 64 = .ok (.aload_n 0, 1) := by decide +kernel
theorem dX6_dig_65 : decode cX6_dig 65 = .ok (.getfield 9, 3) := by decide +kernel
theorem dX6_dig_68 : decode cX6_dig 68 = .ok (.aload_n 0, 1) := by decide +kernel
theorem dX6_dig_69 : decode cX6_dig 69 = .ok (.getfield 68, 3) := by decide +kernel
theorem dX6_dig_72 : decode cX6_dig 72 = .ok (.iload_n 1, 1) := by decide +kernel
theorem dX6_dig_73 : decode cX6_dig 73 = .ok (.bipush 14, 2) := by decide +kernel
theorem dX6_dig_75 : decode cX6_dig 75 = .ok (.iload_n 2, 1) := by decide +kernel
theorem dX6_dig_76 : decode cX6_dig 76 = .ok (.imul, 1) := by decide +kernel
theorem dX6_dig_77 : decode cX6_dig 77 = .ok (.iadd, 1) := by decide +kernel
theorem dX6_dig_78 : decode cX6_dig 78 = .ok (.iastore, 1) := by decide +kernel
theorem dX6_dig_79 : decode cX6_dig 79 = .ok (.aload_n 0, 1) := by decide +kernel
theorem dX6_dig_80 : decode cX6_dig 80 = .ok (.getfield 13, 3) := by decide +kernel
theorem dX6_dig_83 : decode cX6_dig 83 = .ok (.aload_n 0, 1) := by decide +kernel
theorem dX6_dig_84 : decode cX6_dig 84 = .ok (.getfield 68, 3) := by decide +kernel
theorem dX6_dig_87 : decode cX6_dig 87 = .ok (.iload_n 3, 1) := by decide +kernel
theorem dX6_dig_88 : decode cX6_dig 88 = .ok (.iastore, 1) := by decide +kernel
theorem dX6_dig_89 : decode cX6_dig 89 = .ok (.aload_n 0, 1) := by decide +kernel
theorem dX6_dig_90 : decode cX6_dig 90 = .ok (.dup, 1) := by decide +kernel
theorem dX6_dig_91 : decode cX6_dig 91 = .ok (.getfield 68, 3) := by decide +kernel
theorem dX6_dig_94 : decode cX6_dig 94 = .ok (.iconst 1, 1) := by decide +kernel
theorem dX6_dig_95 : decode cX6_dig 95 = .ok (.iadd, 1) := by decide +kernel
theorem dX6_dig_96 : decode cX6_dig 96 = .ok (.putfield 68, 3) := by decide +kernel
theorem dX6_dig_99 : decode cX6_dig 99 = .ok (.aload_n 0, 1) := by decide +kernel
theorem dX6_dig_100 : decode cX6_dig 100 = .ok (.getfield 68, 3) := by decide +kernel
theorem dX6_dig_103 : decode cX6_dig 103 = .ok (.iconst 1, 1) := by decide +kernel
theorem dX6_dig_104 : decode cX6_dig 104 = .ok (.isub, 1) := by decide +kernel
theorem dX6_dig_105 : decode cX6_dig 105 = .ok (.ireturn, 1) := by decide +kernel
theorem dX6_with_0 : decode cX6_with 0 = .ok (.iconst 0, 1) := by decide +kernel
theorem dX6_with_1 : decode cX6_with 1 = .ok (.istore_n 2, 1) := by decide +kernel
theorem dX6_with_2 : decode cX6_with 2 = .ok (.iconst 0, 1) := by decide +kernel
theorem dX6_with_3 : decode cX6_with 3 = .ok (.istore_n 3, 1) := by decide +kernel
theorem dX6_with_4 : decode cX6_with 4 = .ok (.iload_n 3, 1) := by decide +kernel
theorem dX6_with_5 : decode cX6_with 5 = .ok (.aload_n 0, 1) := by decide +kernel
theorem dX6_with_6 : decode cX6_with 6 = .ok (.getfield 59, 3) := by decide +kernel
theorem dX6_with_9 : decode cX6_with 9 = .ok (.if_icmp .ge 27, 3) := by decide +kernel
theorem dX6_with_12 : decode cX6_with 12 = .ok (.iload_n 2, 1) := by decide +kernel
theorem dX6_with_13 : decode cX6_with 13 = .ok (.aload_n 0, 1) := by decide +kernel
theorem dX6_with_14 : decode cX6_with 14 = .ok (.iload_n 3, 1) := by decide +kernel
theorem dX6_with_15 : decode cX6_with 15 = .ok (.iconst 3, 1) := by decide +kernel
theorem dX6_with_16 : decode cX6_with 16 = .ok (.invokevirtual 65, 3) := by decide +kernel
theorem dX6_with_19 : decode cX6_with 19 = .ok (.iload_n 1, 1) := by decide +kernel
theorem dX6_with_20 : decode cX6_with 20 = .ok (.if_icmp .ne 7, 3) := by decide +kernel
theorem dX6_with_23 : decode cX6_with 23 = .ok (.iconst 1, 1) := by decide +kernel
theorem dX6_with_24 : decode cX6_with 24 = .ok (.goto 4, 3) := by decide +kernel
theorem dX6_with_27 : decode cX6_with 27 = .ok (.iconst 0, 1) := by decide +kernel
theorem dX6_with_28 : decode cX6_with 28 = .ok (.iadd, 1) := by decide +kernel
theorem dX6_with_29 : decode cX6_with 29 = .ok (.istore_n 2, 1) := by decide +kernel
theorem dX6_with_30 : decode cX6_with 30 = .ok (.iinc 3 1, 3) := by decide +kernel
theorem dX6_with_33 : decode cX6_with 33 = .ok (.goto (-29), 3) := by decide +kernel
theorem dX6_with_36 : decode cX6_with 36 = .ok (.iload_n 2, 1) := by decide +kernel
theorem dX6_with_37 : decode cX6_with 37 = .ok (.ireturn, 1) := by decide +kernel
theorem dX6_light_0 : decode cX6_light 0 = .ok (.aload_n 0, 1) := by decide +kernel
theorem dX6_light_1 : decode cX6_light 1 = .ok (.iconst 0, 1) := by decide +kernel
theorem dX6_light_2 : decode cX6_light 2 = .ok (.putfield 38, 3) := by decide +kernel
theorem dX6_light_5 : decode cX6_light 5 = .ok (.aload_n 0, 1) := by decide +kernel
theorem dX6_light_6 : decode cX6_light 6 = .ok (.iload_n 1, 1) := by decide +kernel
theorem dX6_light_7 : decode cX6_light 7 = .ok (.invokevirtual 100, 3) := by decide +kernel
theorem dX6_light_10 : decode cX6_light 10 = .ok (.ifCond .ne 9, 3) := by decide +kernel
theorem dX6_light_13 : decode cX6_light 13 = .ok (.aload_n 0, 1) := by decide +kernel
theorem dX6_light_14 : decode cX6_light 14 = .ok (.iconst 1, 1) := by decide +kernel
theorem dX6_light_15 : decode cX6_light 15 = .ok (.invokevirtual 88, 3) := by decide +kernel
theorem dX6_light_18 : decode cX6_light 18 = .ok (.ireturn, 1) := by decide +kernel
theorem dX6_light_19 : decode cX6_light 19 = .ok (.iload_n 2, 1) := by decide +kernel
theorem dX6_light_20 : decode cX6_light 20 = .ok (.iconst 1, 1) := by decide +kernel
theorem dX6_light_21 : decode cX6_light 21 = .ok (.bipush 99, 2) := by decide +kernel
theorem dX6_light_23 : decode cX6_light 23 = .ok (.invokestatic 42, 3) := by decide +kernel
theorem dX6_light_26 : decode cX6_light 26 = .ok (.ifCond .ne 9, 3) := by decide +kernel
theorem dX6_light_29 : decode cX6_light 29 = .ok (.aload_n 0, 1) := by decide +kernel
theorem dX6_light_30 : decode cX6_light 30 = .ok (.iconst 2, 1) := by decide +kernel
theorem dX6_light_31 : decode cX6_light 31 = .ok (.invokevirtual 88, 3) := by decide +kernel
theorem dX6_light_34 : decode cX6_light 34 = .ok (.ireturn, 1) := by decide +kernel
theorem dX6_light_35 : decode cX6_light 35 = .ok (.aload_n 0, 1) := by decide +kernel
theorem dX6_light_36 : decode cX6_light 36 = .ok (.iload_n 1, 1) := by decide +kernel
theorem dX6_light_37 : decode cX6_light 37 = .ok (.iconst 3, 1) := by decide +kernel
theorem dX6_light_38 : decode cX6_light 38 = .ok (.invokevirtual 65, 3) := by decide +kernel
theorem dX6_light_41 : decode cX6_light 41 = .ok (.ifCond .eq 9, 3) := by decide +kernel
theorem dX6_light_44 : decode cX6_light 44 = .ok (.aload_n 0, 1) := by decide +kernel
theorem dX6_light_45 : decode cX6_light 45 = .ok (.iconst 3, 1) := by decide +kernel
theorem dX6_light_46 : decode cX6_light 46 = .ok (.invokevirtual 88, 3) := by decide +kernel
theorem dX6_light_49 : decode cX6_light 49 = .ok (.ireturn, 1) := by decide +kernel
theorem dX6_light_50 : decode cX6_light 50 = .ok (.aload_n 0, 1) := by decide +kernel
theorem dX6_light_51 : decode cX6_light 51 = .ok (.iload_n 1, 1) := by decide +kernel
theorem dX6_light_52 : decode cX6_light 52 = .ok (.iconst 3, 1) := by decide +kernel
theorem dX6_light_53 : decode cX6_light 53 = .ok (.iconst 1, 1) := by decide +kernel
theorem dX6_light_54 : decode cX6_light 54 = .ok (.invokevirtual 103, 3) := by decide +kernel
theorem dX6_light_57 : decode cX6_light 57 = .ok (.aload_n 0, 1) := by decide +kernel
theorem dX6_light_58 : decode cX6_light 58 = .ok (.iload_n 1, 1) := by decide +kernel
theorem dX6_light_59 : decode cX6_light 59 = .ok (.iconst 4, 1) := by decide +kernel
theorem dX6_light_60 : decode cX6_light 60 = .ok (.iload_n 2, 1) := by decide +kernel
theorem dX6_light_61 : decode cX6_light 61 = .ok (.invokevirtual 103, 3) := by decide +kernel
theorem dX6_light_64 : decode cX6_light 64 = .ok (.aload_n 0, 1) := by decide +kernel
theorem dX6_light_65 : decode cX6_light 65 = .ok (.iconst 1, 1) := by decide +kernel
theorem dX6_light_66 : decode cX6_light 66 = .ok (.invokevirtual 107, 3) := by decide +kernel
theorem dX6_light_69 : decode cX6_light 69 = .ok (.ireturn, 1) := by decide +kernel
theorem dX6_heatNear_0 : decode cX6_heatNear 0 = .ok (.iconst 0, 1) := by decide +kernel
theorem dX6_heatNear_1 : decode cX6_heatNear 1 = .ok (.istore_n 2, 1) := by decide +kernel
theorem dX6_heatNear_2 : decode cX6_heatNear 2 = .ok (.iconst 0, 1) := by decide +kernel
theorem dX6_heatNear_3 : decode cX6_heatNear 3 = .ok (.istore_n 3, 1) := by decide +kernel
theorem dX6_heatNear_4 : decode cX6_heatNear 4 = .ok (.iload_n 3, 1) := by decide +kernel
theorem dX6_heatNear_5 : decode cX6_heatNear 5 = .ok (.aload_n 0, 1) := by decide +kernel
theorem dX6_heatNear_6 : decode cX6_heatNear 6 = .ok (.getfield 59, 3) := by decide +kernel
theorem dX6_heatNear_9 : decode cX6_heatNear 9 = .ok (.if_icmp .ge 35, 3) := by decide +kernel
theorem dX6_heatNear_12 : decode cX6_heatNear 12 = .ok (.iload_n 2, 1) := by decide +kernel
theorem dX6_heatNear_13 : decode cX6_heatNear 13 = .ok (.aload_n 0, 1) := by decide +kernel
theorem dX6_heatNear_14 : decode cX6_heatNear 14 = .ok (.iload_n 3, 1) := by decide +kernel
theorem dX6_heatNear_15 : decode cX6_heatNear 15 = .ok (.iconst 0, 1) := by decide +kernel
theorem dX6_heatNear_16 : decode cX6_heatNear 16 = .ok (.invokevirtual 65, 3) := by decide +kernel
theorem dX6_heatNear_19 : decode cX6_heatNear 19 = .ok (.iload_n 1, 1) := by decide +kernel
theorem dX6_heatNear_20 : decode cX6_heatNear 20 = .ok (.invokestatic 110, 3) := by decide +kernel
theorem dX6_heatNear_23 : decode cX6_heatNear 23 = .ok (.ifCond .eq 12, 3) := by decide +kernel
theorem dX6_heatNear_26 : decode cX6_heatNear 26 = .ok (.aload_n 0, 1) := by decide +kernel
theorem dX6_heatNear_27 : decode cX6_heatNear 27 = .ok (.iload_n 3, 1) := by decide +kernel
theorem dX6_heatNear_28 : decode cX6_heatNear 28 = .ok (.iconst 4, 1) := by decide +kernel
theorem dX6_heatNear_29 : decode cX6_heatNear 29 = .ok (.invokevirtual 65, 3) := by decide +kernel
theorem dX6_heatNear_32 : decode cX6_heatNear 32 = .ok (.goto 4, 3) := by decide +kernel
theorem dX6_heatNear_35 : decode cX6_heatNear 35 = .ok (.iconst 0, 1) := by decide +kernel
theorem dX6_heatNear_36 : decode cX6_heatNear 36 = .ok (.iadd, 1) := by decide +kernel
theorem dX6_heatNear_37 : decode cX6_heatNear 37 = .ok (.istore_n 2, 1) := by decide +kernel
theorem dX6_heatNear_38 : decode cX6_heatNear 38 = .ok (.iinc 3 1, 3) := by decide +kernel
theorem dX6_heatNear_41 : decode cX6_heatNear 41 = .ok (.goto (-37), 3) := by decide +kernel
theorem dX6_heatNear_44 : decode cX6_heatNear 44 = .ok (.iload_n 2, 1) := by decide +kernel
theorem dX6_heatNear_45 : decode cX6_heatNear 45 = .ok (.ireturn, 1) := by decide +kernel
theorem dX6_cell_0 : decode cX6_cell 0 = .ok (.aload_n 0, 1) := by decide +kernel
theorem dX6_cell_1 : decode cX6_cell 1 = .ok (.iconst 0, 1) := by decide +kernel
theorem dX6_cell_2 : decode cX6_cell 2 = .ok (.putfield 38, 3) := by decide +kernel
theorem dX6_cell_5 : decode cX6_cell 5 = .ok (.iload_n 1, 1) := by decide +kernel
theorem dX6_cell_6 : decode cX6_cell 6 = .ok (.iload_n 2, 1) := by decide +kernel
theorem dX6_cell_7 : decode cX6_cell 7 = .ok (.invokestatic 84, 3) := by decide +kernel
theorem dX6_cell_10 : decode cX6_cell 10 = .ok (.ifCond .eq 12, 3) := by decide +kernel
theorem dX6_cell_13 : decode cX6_cell 13 = .ok (.iload_n 3, 1) := by decide +kernel
theorem dX6_cell_14 : decode cX6_cell 14 = .ok (.iconst 0, 1) := by decide +kernel
theorem dX6_cell_15 : decode cX6_cell 15 = .ok (.iconst 3, 1) := by decide +kernel
theorem dX6_cell_16 : decode cX6_cell 16 = .ok (.invokestatic 42, 3) := by decide +kernel
theorem dX6_cell_19 : decode cX6_cell 19 = .ok (.ifCond .ne 9, 3) := by decide +kernel
theorem dX6_cell_22 : decode cX6_cell 22 = .ok (.aload_n 0, 1) := by decide +kernel
theorem dX6_cell_23 : decode cX6_cell 23 = .ok (.iconst 1, 1) := by decide +kernel
theorem dX6_cell_24 : decode cX6_cell 24 = .ok (.invokevirtual 88, 3) := by decide +kernel
theorem dX6_cell_27 : decode cX6_cell 27 = .ok (.ireturn, 1) := by decide +kernel
theorem dX6_cell_28 : decode cX6_cell 28 = .ok (.iload_n 1, 1) := by decide +kernel
theorem dX6_cell_29 : decode cX6_cell 29 = .ok (.bipush 14, 2) := by decide +kernel
theorem dX6_cell_31 : decode cX6_cell 31 = .ok (.iload_n 2, 1) := by decide +kernel
theorem dX6_cell_32 : decode cX6_cell 32 = .ok (.imul, 1) := by decide +kernel
theorem dX6_cell_33 : decode cX6_cell 33 = .ok (.iadd, 1) := by decide +kernel
theorem dX6_cell_34 : decode cX6_cell 34 = .ok (.istore 4, 2) := by decide +kernel
theorem dX6_cell_36 : decode cX6_cell 36 = .ok (.iconst 0, 1) := by decide +kernel
theorem dX6_cell_37 : decode cX6_cell 37 = .ok (.istore 5, 2) := by decide +kernel
theorem dX6_cell_39 : decode cX6_cell 39 = .ok (.iconst 0, 1) := by decide +kernel
theorem dX6_cell_40 : decode cX6_cell 40 = .ok (.istore 6, 2) := by decide +kernel
theorem dX6_cell_42 : decode cX6_cell 42 = .ok (.iload 6, 2) := by decide +kernel
theorem dX6_cell_44 : decode cX6_cell 44 = .ok (.aload_n 0, 1) := by decide +kernel
theorem dX6_cell_45 : decode cX6_cell 45 = .ok (.getfield 62, 3) := by decide +kernel
theorem dX6_cell_48 : decode cX6_cell 48 = .ok (.if_icmp .ge 31, 3) := by decide +kernel
theorem dX6_cell_51 : decode cX6_cell 51 = .ok (.iload 5, 2) := by decide +kernel
theorem dX6_cell_53 : decode cX6_cell 53 = .ok (.aload_n 0, 1) := by decide +kernel
theorem dX6_cell_54 : decode cX6_cell 54 = .ok (.iload 6, 2) := by decide +kernel
theorem dX6_cell_56 : decode cX6_cell 56 = .ok (.iconst 0, 1) := by decide +kernel
theorem dX6_cell_57 : decode cX6_cell 57 = .ok (.invokevirtual 81, 3) := by decide +kernel
theorem dX6_cell_60 : decode cX6_cell 60 = .ok (.iload 4, 2) := by decide +kernel
theorem dX6_cell_62 : decode cX6_cell 62 = .ok (.if_icmp .ne 7, 3) := by decide +kernel
theorem dX6_cell_65 : decode cX6_cell 65 = .ok (.iconst 1, 1) := by decide +kernel
theorem dX6_cell_66 : decode cX6_cell 66 = .ok (.goto 4, 3) := by decide +kernel
theorem dX6_cell_69 : decode cX6_cell 69 = .ok (.iconst 0, 1) := by decide +kernel
theorem dX6_cell_70 : decode cX6_cell 70 = .ok (.iadd, 1) := by decide +kernel
theorem dX6_cell_71 : decode cX6_cell 71 = .ok (.istore 5, 2) := by decide +kernel
theorem dX6_cell_73 : decode cX6_cell 73 = .ok (.iinc 6 1, 3) := by decide +kernel
theorem dX6_cell_76 : decode cX6_cell 76 = .ok (.goto (-34), 3) := by decide +kernel
theorem dX6_cell_79 : decode cX6_cell 79 = .ok (.aload_n 0, 1) := by decide +kernel
theorem dX6_cell_80 : decode cX6_cell 80 = .ok (.iload 4, 2) := by decide +kernel
theorem dX6_cell_82 : decode cX6_cell 82 = .ok (.invokevirtual 71, 3) := by decide +kernel
theorem dX6_cell_85 : decode cX6_cell 85 = .ok (.iconst (-1), 1) := by decide +kernel
theorem dX6_cell_86 : decode cX6_cell 86 = .ok (.if_icmp .eq 7, 3) := by decide +kernel
theorem dX6_cell_89 : decode cX6_cell 89 = .ok (.iconst 1, 1) := by decide +kernel
theorem dX6_cell_90 : decode cX6_cell 90 = .ok (.goto 18, 3) := by decide +kernel
theorem dX6_cell_93 : decode cX6_cell 93 = .ok (.aload_n 0, 1) := by decide +kernel
theorem dX6_cell_94 : decode cX6_cell 94 = .ok (.iload 4, 2) := by decide +kernel
theorem dX6_cell_96 : decode cX6_cell 96 = .ok (.invokevirtual 74, 3) := by decide +kernel
theorem dX6_cell_99 : decode cX6_cell 99 = .ok (.iconst (-1), 1) := by decide +kernel
theorem dX6_cell_100 : decode cX6_cell 100 = .ok (.if_icmp .eq 7, 3) := by decide +kernel
theorem dX6_cell_103 : decode cX6_cell 103 = .ok (.iconst 2, 1) := by decide +kernel
theorem dX6_cell_104 : decode cX6_cell 104 = .ok (.goto 4, 3) := by decide +kernel
theorem dX6_cell_107 : decode cX6_cell 107 = .ok (.iconst 0, 1) := by decide +kernel
theorem dX6_cell_108 : decode cX6_cell 108 = .ok (.istore 6, 2) := by decide +kernel
theorem dX6_cell_110 : decode cX6_cell 110 = .ok (.iload_n 3, 1) := by decide +kernel
theorem dX6_cell_111 : decode cX6_cell 111 = .ok (.ifCond .ne 8, 3) := by decide +kernel
theorem dX6_cell_114 : decode cX6_cell 114 = .ok (.iload 6, 2) := by decide +kernel
theorem dX6_cell_116 : decode cX6_cell 116 = .ok (.goto 48, 3) := by decide +kernel
theorem dX6_cell_119 : decode cX6_cell 119 = .ok (.iload_n 3, 1) := by decide +kernel
theorem dX6_cell_120 : decode cX6_cell 120 = .ok (.iconst 1, 1) := by decide +kernel
theorem dX6_cell_121 : decode cX6_cell 121 = .ok (.if_icmp .ne 27, 3) := by decide +kernel
theorem dX6_cell_124 : decode cX6_cell 124 = .ok (.iload 6, 2) := by decide +kernel
theorem dX6_cell_126 : decode cX6_cell 126 = .ok (.iconst 1, 1) := by decide +kernel
theorem dX6_cell_127 : decode cX6_cell 127 = .ok (.if_icmp .ne 12, 3) := by decide +kernel
theorem dX6_cell_130 : decode cX6_cell 130 = .ok (.aload_n 0, 1) := by decide +kernel
theorem dX6_cell_131 : decode cX6_cell 131 = .ok (.iload 4, 2) := by decide +kernel
theorem dX6_cell_133 : decode cX6_cell 133 = .ok (.invokevirtual 71, 3) := by decide +kernel
theorem dX6_cell_136 : decode cX6_cell 136 = .ok (.goto 28, 3) := by decide +kernel
theorem dX6_cell_139 : decode cX6_cell 139 = .ok (.aload_n 0, 1) := by decide +kernel
theorem dX6_cell_140 : decode cX6_cell 140 = .ok (.iload 4, 2) := by decide +kernel
theorem dX6_cell_142 : decode cX6_cell 142 = .ok (.invokevirtual 74, 3) := by decide +kernel
theorem dX6_cell_145 : decode cX6_cell 145 = .ok (.goto 19, 3) := by decide +kernel
theorem dX6_cell_148 : decode cX6_cell 148 = .ok (.iload_n 3, 1) := by decide +kernel
theorem dX6_cell_149 : decode cX6_cell 149 = .ok (.iconst 2, 1) := by decide +kernel
theorem dX6_cell_150 : decode cX6_cell 150 = .ok (.if_icmp .ne 8, 3) := by decide +kernel
theorem dX6_cell_153 : decode cX6_cell 153 = .ok (.iload 5, 2) := by decide +kernel
theorem dX6_cell_155 : decode cX6_cell 155 = .ok (.goto 9, 3) := by decide +kernel
theorem dX6_cell_158 : decode cX6_cell 158 = .ok (.aload_n 0, 1) := by decide +kernel
theorem dX6_cell_159 : decode cX6_cell 159 = .ok (.iload 4, 2) := by decide +kernel
theorem dX6_cell_161 : decode cX6_cell 161 = .ok (.invokevirtual 113, 3) := by decide +kernel
theorem dX6_cell_164 : decode cX6_cell 164 = .ok (.ireturn, 1) := by decide +kernel
theorem dX6_house_0 : decode cX6_house 0 = .ok (.aload_n 0, 1) := by decide +kernel
theorem dX6_house_1 : decode cX6_house 1 = .ok (.iconst 0, 1) := by decide +kernel
theorem dX6_house_2 : decode cX6_house 2 = .ok (.putfield 38, 3) := by decide +kernel
theorem dX6_house_5 : decode cX6_house 5 = .ok (.aload_n 0, 1) := by decide +kernel
theorem dX6_house_6 : decode cX6_house 6 = .ok (.iload_n 1, 1) := by decide +kernel
theorem dX6_house_7 : decode cX6_house 7 = .ok (.invokevirtual 100, 3) := by decide +kernel
theorem dX6_house_10 : decode cX6_house 10 = .ok (.ifCond .eq 22, 3) := by decide +kernel
theorem dX6_house_13 : decode cX6_house 13 = .ok (.iload_n 2, 1) := by decide +kernel
theorem dX6_house_14 : decode cX6_house 14 = .ok (.iconst 0, 1) := by decide +kernel
theorem dX6_house_15 : decode cX6_house 15 = .ok (.bipush 6, 2) := by decide +kernel
theorem dX6_house_17 : decode cX6_house 17 = .ok (.invokestatic 42, 3) := by decide +kernel
theorem dX6_house_20 : decode cX6_house 20 = .ok (.ifCond .eq 12, 3) := by decide +kernel
theorem dX6_house_23 : decode cX6_house 23 = .ok (.aload_n 0, 1) := by decide +kernel
theorem dX6_house_24 : decode cX6_house 24 = .ok (.iload_n 1, 1) := by decide +kernel
theorem dX6_house_25 : decode cX6_house 25 = .ok (.iload_n 2, 1) := by decide +kernel
theorem dX6_house_26 : decode cX6_house 26 = .ok (.invokevirtual 65, 3) := by decide +kernel
theorem dX6_house_29 : decode cX6_house 29 = .ok (.goto 8, 3) := by decide +kernel
theorem dX6_house_32 : decode cX6_house 32 = .ok (.aload_n 0, 1) := by decide +kernel
theorem dX6_house_33 : decode cX6_house 33 = .ok (.iconst 1, 1) := by decide +kernel
theorem dX6_house_34 : decode cX6_house 34 = .ok (.invokevirtual 88, 3) := by decide +kernel
theorem dX6_house_37 : decode cX6_house 37 = .ok (.ireturn, 1) := by decide +kernel
theorem dX6_addEngine_0 : decode cX6_addEngine 0 = .ok (.aload_n 0, 1) := by decide +kernel
theorem dX6_addEngine_1 : decode cX6_addEngine 1 = .ok (.iconst 0, 1) := by decide +kernel
theorem dX6_addEngine_2 : decode cX6_addEngine 2 = .ok (.putfield 38, 3) := by decide +kernel
theorem dX6_addEngine_5 : decode cX6_addEngine 5 = .ok (.iload_n 1, 1) := by decide +kernel
theorem dX6_addEngine_6 : decode cX6_addEngine 6 = .ok (.iload_n 2, 1) := by decide +kernel
theorem dX6_addEngine_7 : decode cX6_addEngine 7 = .ok (.invokestatic 84, 3) := by decide +kernel
theorem dX6_addEngine_10 : decode cX6_addEngine 10 = .ok (.ifCond .ne 9, 3) := by decide +kernel
theorem dX6_addEngine_13 : decode cX6_addEngine 13 = .ok (.aload_n 0, 1) := by decide +kernel
theorem dX6_addEngine_14 : decode cX6_addEngine 14 = .ok (.iconst 1, 1) := by decide +kernel
theorem dX6_addEngine_15 : decode cX6_addEngine 15 = .ok (.invokevirtual 88, 3) := by decide +kernel
theorem dX6_addEngine_18 : decode cX6_addEngine 18 = .ok (.ireturn, 1) := by decide +kernel
theorem dX6_addEngine_19 : decode cX6_addEngine 19 = .ok (.iload_n 3, 1) := by decide +kernel
theorem dX6_addEngine_20 : decode cX6_addEngine 20 = .ok (.iconst 1, 1) := by decide +kernel
theorem dX6_addEngine_21 : decode cX6_addEngine 21 = .ok (.iconst 4, 1) := by decide +kernel
theorem dX6_addEngine_22 : decode cX6_addEngine 22 = .ok (.invokestatic 42, 3) := by decide +kernel
theorem dX6_addEngine_25 : decode cX6_addEngine 25 = .ok (.ifCond .eq 14, 3) := by decide +kernel
theorem dX6_addEngine_28 : decode cX6_addEngine 28 = .ok (.iload 4, 2) := by decide +kernel
theorem dX6_addEngine_30 : decode cX6_addEngine 30 = .ok (.iconst 1, 1) := by decide +kernel
theorem dX6_addEngine_31 : decode cX6_addEngine 31 = .ok (.bipush 20, 2) := by decide +kernel
theorem dX6_addEngine_33 : decode cX6_addEngine 33 = .ok (.invokestatic 42, 3) := by decide +kernel
theorem dX6_addEngine_36 : decode cX6_addEngine 36 = .ok (.ifCond .ne 9, 3) := by decide +kernel
theorem dX6_addEngine_39 : decode cX6_addEngine 39 = .ok (.aload_n 0, 1) := by decide +kernel
theorem dX6_addEngine_40 : decode cX6_addEngine 40 = .ok (.iconst 2, 1) := by decide +kernel
theorem dX6_addEngine_41 : decode cX6_addEngine 41 = .ok (.invokevirtual 88, 3) := by decide +kernel
theorem dX6_addEngine_44 : decode cX6_addEngine 44 = .ok (.ireturn, 1) := by decide +kernel
theorem dX6_addEngine_45 : decode cX6_addEngine 45 = .ok (.aload_n 0, 1) := by decide +kernel
theorem dX6_addEngine_46 : decode cX6_addEngine 46 = .ok (.getfield 62, 3) := by decide +kernel
theorem dX6_addEngine_49 : decode cX6_addEngine 49 = .ok (.bipush 6, 2) := by decide +kernel
theorem dX6_addEngine_51 : decode cX6_addEngine 51 = .ok (.if_icmp .eq 16, 3) := by decide +kernel
theorem dX6_addEngine_54 : decode cX6_addEngine 54 = .ok (.aload_n 0, 1) := by decide +kernel
theorem dX6_addEngine_55 : decode cX6_addEngine 55 = .ok (.iload_n 1, 1) := by decide +kernel
theorem dX6_addEngine_56 : decode cX6_addEngine 56 = .ok (.bipush 14, 2) := by decide +kernel
theorem dX6_addEngine_58 : decode cX6_addEngine 58 = .ok (.iload_n 2, 1) := by decide +kernel
theorem dX6_addEngine_59 : decode cX6_addEngine 59 = .ok (.imul, 1) := by decide +kernel
theorem dX6_addEngine_60 : decode cX6_addEngine 60 = .ok (.iadd, 1) := by decide +kernel
theorem dX6_addEngine_61 : decode cX6_addEngine 61 = .ok (.invokevirtual 77, 3) := by decide +kernel
theorem dX6_addEngine_64 : decode cX6_addEngine 64 = .ok (.ifCond .ne 9, 3) := by decide +kernel
theorem dX6_addEngine_67 : decode cX6_addEngine 67 = .ok (.aload_n 0, 1) := by decide +kernel
theorem dX6_addEngine_68 : decode cX6_addEngine 68 = .ok (.iconst 3, 1) := by decide +kernel
theorem dX6_addEngine_69 : decode cX6_addEngine 69 = .ok (.invokevirtual 88, 3) := by decide +kernel
theorem dX6_addEngine_72 : decode cX6_addEngine 72 = .ok (.ireturn, 1) := by decide +kernel
theorem dX6_addEngine_73 : decode cX6_addEngine 73 = .ok (.bipush 9, 2) := by decide +kernel
theorem dX6_addEngine_75 : decode cX6_addEngine 75 = .ok (.newarray .int, 2) := by decide +kernel
theorem dX6_addEngine_77 : decode cX6_addEngine 77 = .ok (.dup, 1) := by decide +kernel
theorem dX6_addEngine_78 : decode cX6_addEngine 78 = .ok (.iconst 0, 1) := by decide +kernel
theorem dX6_addEngine_79 : decode cX6_addEngine 79 = .ok (.iload_n 1, 1) := by decide +kernel
theorem dX6_addEngine_80 : decode cX6_addEngine 80 = .ok (.bipush 14, 2) := by decide +kernel
theorem dX6_addEngine_82 : decode cX6_addEngine 82 = .ok (.iload_n 2, 1) := by decide +kernel
theorem dX6_addEngine_83 : decode cX6_addEngine 83 = .ok (.imul, 1) := by decide +kernel
theorem dX6_addEngine_84 : decode cX6_addEngine 84 = .ok (.iadd, 1) := by decide +kernel
theorem dX6_addEngine_85 : decode cX6_addEngine 85 = .ok (.iastore, 1) := by decide +kernel
theorem dX6_addEngine_86 : decode cX6_addEngine 86 = .ok (.dup, 1) := by decide +kernel
theorem dX6_addEngine_87 : decode cX6_addEngine 87 = .ok (.iconst 1, 1) := by decide +kernel
theorem dX6_addEngine_88 : decode cX6_addEngine 88 = .ok (.iload_n 3, 1) := by decide +kernel
theorem dX6_addEngine_89 : decode cX6_addEngine 89 = .ok (.iastore, 1) := by decide +kernel
theorem dX6_addEngine_90 : decode cX6_addEngine 90 = .ok (.dup, 1) := by decide +kernel
theorem dX6_addEngine_91 : decode cX6_addEngine 91 = .ok (.iconst 2, 1) := by decide +kernel
theorem dX6_addEngine_92 : decode cX6_addEngine 92 = .ok (.iload 4, 2) := by decide +kernel
theorem dX6_addEngine_94 : decode cX6_addEngine 94 = .ok (.iastore, 1) := by decide +kernel
theorem dX6_addEngine_95 : decode cX6_addEngine 95 = .ok (.dup, 1) := by decide +kernel
theorem dX6_addEngine_96 : decode cX6_addEngine 96 = .ok (.iconst 3, 1) := by decide +kernel
theorem dX6_addEngine_97 : decode cX6_addEngine 97 = .ok (.bipush 60, 2) := by decide +kernel
theorem dX6_addEngine_99 : decode cX6_addEngine 99 = .ok (.iastore, 1) := by decide +kernel
theorem dX6_addEngine_100 : decode cX6_addEngine 100 = .ok (.dup, 1) := by decide +kernel
theorem dX6_addEngine_101 : decode cX6_addEngine 101 = .ok (.iconst 4, 1) := by decide +kernel
theorem dX6_addEngine_102 : decode cX6_addEngine 102 = .ok (.iconst 0, 1) := by decide +kernel
theorem dX6_addEngine_103 : decode cX6_addEngine 103 = .ok (.iastore, 1) := by decide +kernel
theorem dX6_addEngine_104 : decode cX6_addEngine 104 = .ok (.dup, 1) := by decide +kernel
theorem dX6_addEngine_105 : decode cX6_addEngine 105 = .ok (.iconst 5, 1) := by decide +kernel
theorem dX6_addEngine_106 : decode cX6_addEngine 106 = .ok (.iconst 0, 1) := by decide +kernel
theorem dX6_addEngine_107 : decode cX6_addEngine 107 = .ok (.iastore, 1) := by decide +kernel
theorem dX6_addEngine_108 : decode cX6_addEngine 108 = .ok (.dup, 1) := by decide +kernel
theorem dX6_addEngine_109 : decode cX6_addEngine 109 = .ok (.bipush 6, 2) := by decide +kernel
theorem dX6_addEngine_111 : decode cX6_addEngine 111 = .ok (.iconst (-1), 1) := by decide +kernel
theorem dX6_addEngine_112 : decode cX6_addEngine 112 = .ok (.iastore, 1) := by decide +kernel
theorem dX6_addEngine_113 : decode cX6_addEngine 113 = .ok (.dup, 1) := by decide +kernel
theorem dX6_addEngine_114 : decode cX6_addEngine 114 = .ok (.bipush 7, 2) := by decide +kernel
theorem dX6_addEngine_116 : decode cX6_addEngine 116 = .ok (.iconst (-1), 1) := by decide +kernel
theorem dX6_addEngine_117 : decode cX6_addEngine 117 = .ok (.iastore, 1) := by decide +kernel
theorem dX6_addEngine_118 : decode cX6_addEngine 118 = .ok (.dup, 1) := by decide +kernel
theorem dX6_addEngine_119 : decode cX6_addEngine 119 = .ok (.bipush 8, 2) := by decide +kernel
theorem dX6_addEngine_121 : decode cX6_addEngine 121 = .ok (.iconst 0, 1) := by decide +kernel
theorem dX6_addEngine_122 : decode cX6_addEngine 122 = .ok (.iastore, 1) := by decide +kernel
theorem dX6_addEngine_123 : decode cX6_addEngine 123 = .ok (.astore 5, 2) := by decide +kernel
theorem dX6_addEngine_125 : decode cX6_addEngine 125 = .ok (.aload 5, 2) := by decide +kernel
theorem dX6_addEngine_127 : decode cX6_addEngine 127 = .ok (.iconst 0, 1) := by decide +kernel
theorem dX6_addEngine_128 : decode cX6_addEngine 128 = .ok (.aload_n 0, 1) := by decide +kernel
theorem dX6_addEngine_129 : decode cX6_addEngine 129 = .ok (.getfield 19, 3) := by decide +kernel
theorem dX6_addEngine_132 : decode cX6_addEngine 132 = .ok (.bipush 9, 2) := by decide +kernel
theorem dX6_addEngine_134 : decode cX6_addEngine 134 = .ok (.aload_n 0, 1) := by decide +kernel
theorem dX6_addEngine_135 : decode cX6_addEngine 135 = .ok (.getfield 62, 3) := by decide +kernel
theorem dX6_addEngine_138 : decode cX6_addEngine 138 = .ok (.imul, 1) := by decide +kernel
theorem dX6_addEngine_139 : decode cX6_addEngine 139 = .ok (.bipush 9, 2) := by decide +kernel
theorem dX6_addEngine_141 : decode cX6_addEngine 141 = .ok (.invokestatic 94, 3) := by decide +kernel
theorem dX6_addEngine_144 : decode cX6_addEngine 144 = .ok (.aload_n 0, 1) := by decide +kernel
theorem dX6_addEngine_145 : decode cX6_addEngine 145 = .ok (.dup, 1) := by decide +kernel
theorem dX6_addEngine_146 : decode cX6_addEngine 146 = .ok (.getfield 62, 3) := by decide +kernel
theorem dX6_addEngine_149 : decode cX6_addEngine 149 = .ok (.iconst 1, 1) := by decide +kernel
theorem dX6_addEngine_150 : decode cX6_addEngine 150 = .ok (.iadd, 1) := by decide +kernel
theorem dX6_addEngine_151 : decode cX6_addEngine 151 = .ok (.putfield 62, 3) := by decide +kernel
theorem dX6_addEngine_154 : decode cX6_addEngine 154 = .ok (.aload_n 0, 1) := by decide +kernel
theorem dX6_addEngine_155 : decode cX6_addEngine 155 = .ok (.getfield 62, 3) := by decide +kernel
theorem dX6_addEngine_158 : decode cX6_addEngine 158 = .ok (.iconst 1, 1) := by decide +kernel
theorem dX6_addEngine_159 : decode cX6_addEngine 159 = .ok (.isub, 1) := by decide +kernel
theorem dX6_addEngine_160 : decode cX6_addEngine 160 = .ok (.ireturn, 1) := by decide +kernel
theorem dX6_stoke_0 : decode cX6_stoke 0 = .ok (.aload_n 0, 1) := by decide +kernel
theorem dX6_stoke_1 : decode cX6_stoke 1 = .ok (.iconst 0, 1) := by decide +kernel
theorem dX6_stoke_2 : decode cX6_stoke 2 = .ok (.putfield 38, 3) := by decide +kernel
theorem dX6_stoke_5 : decode cX6_stoke 5 = .ok (.aload_n 0, 1) := by decide +kernel
theorem dX6_stoke_6 : decode cX6_stoke 6 = .ok (.iload_n 1, 1) := by decide +kernel
theorem dX6_stoke_7 : decode cX6_stoke 7 = .ok (.invokevirtual 116, 3) := by decide +kernel
theorem dX6_stoke_10 : decode cX6_stoke 10 = .ok (.ifCond .ne 9, 3) := by decide +kernel
theorem dX6_stoke_13 : decode cX6_stoke 13 = .ok (.aload_n 0, 1) := by decide +kernel
theorem dX6_stoke_14 : decode cX6_stoke 14 = .ok (.iconst 1, 1) := by decide +kernel
theorem dX6_stoke_15 : decode cX6_stoke 15 = .ok (.invokevirtual 88, 3) := by decide +kernel
theorem dX6_stoke_18 : decode cX6_stoke 18 = .ok (.ireturn, 1) := by decide +kernel
theorem dX6_stoke_19 : decode cX6_stoke 19 = .ok (.iload_n 2, 1) := by decide +kernel
theorem dX6_stoke_20 : decode cX6_stoke 20 = .ok (.iconst 1, 1) := by decide +kernel
theorem dX6_stoke_21 : decode cX6_stoke 21 = .ok (.bipush 100, 2) := by decide +kernel
theorem dX6_stoke_23 : decode cX6_stoke 23 = .ok (.invokestatic 42, 3) := by decide +kernel
theorem dX6_stoke_26 : decode cX6_stoke 26 = .ok (.ifCond .ne 9, 3) := by decide +kernel
theorem dX6_stoke_29 : decode cX6_stoke 29 = .ok (.aload_n 0, 1) := by decide +kernel
theorem dX6_stoke_30 : decode cX6_stoke 30 = .ok (.iconst 2, 1) := by decide +kernel
theorem dX6_stoke_31 : decode cX6_stoke 31 = .ok (.invokevirtual 88, 3) := by decide +kernel
theorem dX6_stoke_34 : decode cX6_stoke 34 = .ok (.ireturn, 1) := by decide +kernel
theorem dX6_stoke_35 : decode cX6_stoke 35 = .ok (.aload_n 0, 1) := by decide +kernel
theorem dX6_stoke_36 : decode cX6_stoke 36 = .ok (.iload_n 1, 1) := by decide +kernel
theorem dX6_stoke_37 : decode cX6_stoke 37 = .ok (.iconst 3, 1) := by decide +kernel
theorem dX6_stoke_38 : decode cX6_stoke 38 = .ok (.invokevirtual 81, 3) := by decide +kernel
theorem dX6_stoke_41 : decode cX6_stoke 41 = .ok (.iload_n 2, 1) := by decide +kernel
theorem dX6_stoke_42 : decode cX6_stoke 42 = .ok (.iadd, 1) := by decide +kernel
theorem dX6_stoke_43 : decode cX6_stoke 43 = .ok (.sipush 200, 3) := by decide +kernel
theorem dX6_stoke_46 : decode cX6_stoke 46 = .ok (.if_icmp .le 9, 3) := by decide +kernel
theorem dX6_stoke_49 : decode cX6_stoke 49 = .ok (.aload_n 0, 1) := by decide +kernel
theorem dX6_stoke_50 : decode cX6_stoke 50 = .ok (.iconst 3, 1) := by decide +kernel
theorem dX6_stoke_51 : decode cX6_stoke 51 = .ok (.invokevirtual 88, 3) := by decide +kernel
theorem dX6_stoke_54 : decode cX6_stoke 54 = .ok (.ireturn, 1) := by decide +kernel
theorem dX6_stoke_55 : decode cX6_stoke 55 = .ok (.aload_n 0, 1) := by decide +kernel
theorem dX6_stoke_56 : decode cX6_stoke 56 = .ok (.iload_n 1, 1) := by decide +kernel
theorem dX6_stoke_57 : decode cX6_stoke 57 = .ok (.iconst 3, 1) := by decide +kernel
theorem dX6_stoke_58 : decode cX6_stoke 58 = .ok (.aload_n 0, 1) := by decide +kernel
theorem dX6_stoke_59 : decode cX6_stoke 59 = .ok (.iload_n 1, 1) := by decide +kernel
theorem dX6_stoke_60 : decode cX6_stoke 60 = .ok (.iconst 3, 1) := by decide +kernel
theorem dX6_stoke_61 : decode cX6_stoke 61 = .ok (.invokevirtual 81, 3) := by decide +kernel
theorem dX6_stoke_64 : decode cX6_stoke 64 = .ok (.iload_n 2, 1) := by decide +kernel
theorem dX6_stoke_65 : decode cX6_stoke 65 = .ok (.iadd, 1) := by decide +kernel
theorem dX6_stoke_66 : decode cX6_stoke 66 = .ok (.invokevirtual 119, 3) := by decide +kernel
theorem dX6_stoke_69 : decode cX6_stoke 69 = .ok (.aload_n 0, 1) := by decide +kernel
theorem dX6_stoke_70 : decode cX6_stoke 70 = .ok (.iload_n 1, 1) := by decide +kernel
theorem dX6_stoke_71 : decode cX6_stoke 71 = .ok (.iconst 3, 1) := by decide +kernel
theorem dX6_stoke_72 : decode cX6_stoke 72 = .ok (.invokevirtual 81, 3) := by decide +kernel
theorem dX6_stoke_75 : decode cX6_stoke 75 = .ok (.ireturn, 1) := by decide +kernel
theorem dX6_way_0 : decode cX6_way 0 = .ok (.iconst 0, 1) := by decide +kernel
theorem dX6_way_1 : decode cX6_way 1 = .ok (.istore_n 3, 1) := by decide +kernel
theorem dX6_way_2 : decode cX6_way 2 = .ok (.iload_n 3, 1) := by decide +kernel
theorem dX6_way_3 : decode cX6_way 3 = .ok (.sipush 140, 3) := by decide +kernel
theorem dX6_way_6 : decode cX6_way 6 = .ok (.if_icmp .ge 25, 3) := by decide +kernel
theorem dX6_way_9 : decode cX6_way 9 = .ok (.aload_n 0, 1) := by decide +kernel
theorem dX6_way_10 : decode cX6_way 10 = .ok (.getfield 32, 3) := by decide +kernel
theorem dX6_way_13 : decode cX6_way 13 = .ok (.iload_n 3, 1) := by decide +kernel
theorem dX6_way_14 : decode cX6_way 14 = .ok (.iload_n 3, 1) := by decide +kernel
theorem dX6_way_15 : decode cX6_way 15 = .ok (.iload_n 1, 1) := by decide +kernel
theorem dX6_way_16 : decode cX6_way 16 = .ok (.if_icmp .ne 7, 3) := by decide +kernel
theorem dX6_way_19 : decode cX6_way 19 = .ok (.iconst 0, 1) := by decide +kernel
theorem dX6_way_20 : decode cX6_way 20 = .ok (.goto 4, 3) := by decide +kernel
theorem dX6_way_23 : decode cX6_way 23 = .ok (.iconst (-1), 1) := by decide +kernel
theorem dX6_way_24 : decode cX6_way 24 = .ok (.iastore, 1) := by decide +kernel
theorem dX6_way_25 : decode cX6_way 25 = .ok (.iinc 3 1, 3) := by decide +kernel
theorem dX6_way_28 : decode cX6_way 28 = .ok (.goto (-26), 3) := by decide +kernel
theorem dX6_way_31 : decode cX6_way 31 = .ok (.iconst 0, 1) := by decide +kernel
theorem dX6_way_32 : decode cX6_way 32 = .ok (.istore_n 3, 1) := by decide +kernel
theorem dX6_way_33 : decode cX6_way 33 = .ok (.iload_n 3, 1) := by decide +kernel
theorem dX6_way_34 : decode cX6_way 34 = .ok (.sipush 140, 3) := by decide +kernel
theorem dX6_way_37 : decode cX6_way 37 = .ok (.if_icmp .ge 183, 3) := by decide +kernel
theorem dX6_way_40 : decode cX6_way 40 = .ok (.aload_n 0, 1) := by decide +kernel
theorem dX6_way_41 : decode cX6_way 41 = .ok (.getfield 32, 3) := by decide +kernel
theorem dX6_way_44 : decode cX6_way 44 = .ok (.iload_n 2, 1) := by decide +kernel
theorem dX6_way_45 : decode cX6_way 45 = .ok (.iaload, 1) := by decide +kernel
theorem dX6_way_46 : decode cX6_way 46 = .ok (.iconst (-1), 1) := by decide +kernel
theorem dX6_way_47 : decode cX6_way 47 = .ok (.if_icmp .ne 173, 3) := by decide +kernel
theorem dX6_way_50 : decode cX6_way 50 = .ok (.iconst 0, 1) := by decide +kernel
theorem dX6_way_51 : decode cX6_way 51 = .ok (.istore 4, 2) := by decide +kernel
theorem dX6_way_53 : decode cX6_way 53 = .ok (.iload 4, 2) := by decide +kernel
theorem dX6_way_55 : decode cX6_way 55 = .ok (.sipush 140, 3) := by decide +kernel
theorem dX6_way_58 : decode cX6_way 58 = .ok (.if_icmp .ge 156, 3) := by decide +kernel
theorem dX6_way_61 : decode cX6_way 61 = .ok (.aload_n 0, 1) := by decide +kernel
