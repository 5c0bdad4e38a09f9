theorem dJ7_copyOf_6403c_10 : decode cJ7_copyOf_6403c 10 = .ok (.goto 14, 3) := by decide +kernel
theorem dJ7_copyOf_6403c_13 : decode cJ7_copyOf_6403c 13 = .ok (.aload_n 2, 1) := by decide +kernel
theorem dJ7_copyOf_6403c_14 : decode cJ7_copyOf_6403c 14 = .ok (.invokevirtual 90, 3) := by decide +kernel
theorem dJ7_copyOf_6403c_17 : decode cJ7_copyOf_6403c 17 = .ok (.iload_n 1, 1) := by decide +kernel
theorem dJ7_copyOf_6403c_18 : decode cJ7_copyOf_6403c 18 = .ok (.invokestatic 95, 3) := by decide +kernel
theorem dJ7_copyOf_6403c_21 : decode cJ7_copyOf_6403c 21 = .ok (.checkcast 110, 3) := by decide +kernel
theorem dJ7_copyOf_6403c_24 : decode cJ7_copyOf_6403c 24 = .ok (.astore_n 3, 1) := by decide +kernel
theorem dJ7_copyOf_6403c_25 : decode cJ7_copyOf_6403c 25 = .ok (.aload_n 0, 1) := by decide +kernel
theorem dJ7_copyOf_6403c_26 : decode cJ7_copyOf_6403c 26 = .ok (.iconst 0, 1) := by decide +kernel
theorem dJ7_copyOf_6403c_27 : decode cJ7_copyOf_6403c 27 = .ok (.aload_n 3, 1) := by decide +kernel
theorem dJ7_copyOf_6403c_28 : decode cJ7_copyOf_6403c 28 = .ok (.iconst 0, 1) := by decide +kernel
theorem dJ7_copyOf_6403c_29 : decode cJ7_copyOf_6403c 29 = .ok (.aload_n 0, 1) := by decide +kernel
theorem dJ7_copyOf_6403c_30 : decode cJ7_copyOf_6403c 30 = .ok (.arraylength, 1) := by decide +kernel
theorem dJ7_copyOf_6403c_31 : decode cJ7_copyOf_6403c 31 = .ok (.iload_n 1, 1) := by decide +kernel
theorem dJ7_copyOf_6403c_32 : decode cJ7_copyOf_6403c 32 = .ok (.invokestatic 304, 3) := by decide +kernel
theorem dJ7_copyOf_6403c_35 : decode cJ7_copyOf_6403c 35 = .ok (.invokestatic 150, 3) := by decide +kernel
theorem dJ7_copyOf_6403c_38 : decode cJ7_copyOf_6403c 38 = .ok (.aload_n 3, 1) := by decide +kernel
theorem dJ7_copyOf_6403c_39 : decode cJ7_copyOf_6403c 39 = .ok (.areturn, 1) := by decide +kernel
theorem dJ15_checkIndex_7cf53_0 : decode cJ15_checkIndex_7cf53 0 = .ok (.iload_n 0, 1) := by decide +kernel
theorem dJ15_checkIndex_7cf53_1 : decode cJ15_checkIndex_7cf53 1 = .ok (.iload_n 1, 1) := by decide +kernel
theorem dJ15_checkIndex_7cf53_2 : decode cJ15_checkIndex_7cf53 2 = .ok (.aconst_null, 1) := by decide +kernel
theorem dJ15_checkIndex_7cf53_3 : decode cJ15_checkIndex_7cf53 3 = .ok (.invokestatic 105, 3) := by decide +kernel
theorem dJ15_checkIndex_7cf53_6 : decode cJ15_checkIndex_7cf53 6 = .ok (.ireturn, 1) := by decide +kernel
theorem dJ8_newLength_cabcc_0 : decode cJ8_newLength_cabcc 0 = .ok (.iload_n 0, 1) := by decide +kernel
theorem dJ8_newLength_cabcc_1 : decode cJ8_newLength_cabcc 1 = .ok (.iload_n 1, 1) := by decide +kernel
theorem dJ8_newLength_cabcc_2 : decode cJ8_newLength_cabcc 2 = .ok (.iload_n 2, 1) := by decide +kernel
theorem dJ8_newLength_cabcc_3 : decode cJ8_newLength_cabcc 3 = .ok (.invokestatic 194, 3) := by decide +kernel
theorem dJ8_newLength_cabcc_6 : decode cJ8_newLength_cabcc 6 = .ok (.iadd, 1) := by decide +kernel
theorem dJ8_newLength_cabcc_7 : decode cJ8_newLength_cabcc 7 = .ok (.istore_n 3, 1) := by decide +kernel
theorem dJ8_newLength_cabcc_8 : decode cJ8_newLength_cabcc 8 = .ok (.iconst 0, 1) := by decide +kernel
theorem dJ8_newLength_cabcc_9 : decode cJ8_newLength_cabcc 9 = .ok (.iload_n 3, 1) := by decide +kernel
theorem dJ8_newLength_cabcc_10 : decode cJ8_newLength_cabcc 10 = .ok (.if_icmp .ge 11, 3) := by decide +kernel
theorem dJ8_newLength_cabcc_13 : decode cJ8_newLength_cabcc 13 = .ok (.iload_n 3, 1) := by decide +kernel
theorem dJ8_newLength_cabcc_14 : decode cJ8_newLength_cabcc 14 = .ok (.ldc 200, 2) := by decide +kernel
theorem dJ8_newLength_cabcc_16 : decode cJ8_newLength_cabcc 16 = .ok (.if_icmp .gt 5, 3) := by decide +kernel
theorem dJ8_newLength_cabcc_19 : decode cJ8_newLength_cabcc 19 = .ok (.iload_n 3, 1) := by decide +kernel
theorem dJ8_newLength_cabcc_20 : decode cJ8_newLength_cabcc 20 = .ok (.ireturn, 1) := by decide +kernel
theorem dJ8_newLength_cabcc_21 : decode cJ8_newLength_cabcc 21 = .ok (.iload_n 0, 1) := by decide +kernel
theorem dJ8_newLength_cabcc_22 : decode cJ8_newLength_cabcc 22 = .ok (.iload_n 1, 1) := by decide +kernel
theorem dJ8_newLength_cabcc_23 : decode cJ8_newLength_cabcc 23 = .ok (.invokestatic 201, 3) := by decide +kernel
theorem dJ8_newLength_cabcc_26 : decode cJ8_newLength_cabcc 26 = .ok (.ireturn, 1) := by decide +kernel
theorem dJ8_hugeLength_7cf53_0 : decode cJ8_hugeLength_7cf53 0 = .ok (.iload_n 0, 1) := by decide +kernel
theorem dJ8_hugeLength_7cf53_1 : decode cJ8_hugeLength_7cf53 1 = .ok (.iload_n 1, 1) := by decide +kernel
theorem dJ8_hugeLength_7cf53_2 : decode cJ8_hugeLength_7cf53 2 = .ok (.iadd, 1) := by decide +kernel
theorem dJ8_hugeLength_7cf53_3 : decode cJ8_hugeLength_7cf53 3 = .ok (.istore_n 2, 1) := by decide +kernel
theorem dJ8_hugeLength_7cf53_4 : decode cJ8_hugeLength_7cf53 4 = .ok (.iload_n 2, 1) := by decide +kernel
theorem dJ8_hugeLength_7cf53_5 : decode cJ8_hugeLength_7cf53 5 = .ok (.ifCond .ge 44, 3) := by decide +kernel
theorem dJ8_hugeLength_7cf53_8 : decode cJ8_hugeLength_7cf53 8 = .ok (.new 204, 3) := by decide +kernel
theorem dJ8_hugeLength_7cf53_11 : decode cJ8_hugeLength_7cf53 11 = .ok (.dup, 1) := by decide +kernel
theorem dJ8_hugeLength_7cf53_12 : decode cJ8_hugeLength_7cf53 12 = .ok (.new 89, 3) := by decide +kernel
theorem dJ8_hugeLength_7cf53_15 : decode cJ8_hugeLength_7cf53 15 = .ok (.dup, 1) := by decide +kernel
theorem dJ8_hugeLength_7cf53_16 : decode cJ8_hugeLength_7cf53 16 = .ok (.invokespecial 91, 3) := by decide +kernel
theorem dJ8_hugeLength_7cf53_19 : decode cJ8_hugeLength_7cf53 19 = .ok (.ldc 206, 2) := by decide +kernel
theorem dJ8_hugeLength_7cf53_21 : decode cJ8_hugeLength_7cf53 21 = .ok (.invokevirtual 94, 3) := by decide +kernel
theorem dJ8_hugeLength_7cf53_24 : decode cJ8_hugeLength_7cf53 24 = .ok (.iload_n 0, 1) := by decide +kernel
theorem dJ8_hugeLength_7cf53_25 : decode cJ8_hugeLength_7cf53 25 = .ok (.invokevirtual 98, 3) := by decide +kernel
theorem dJ8_hugeLength_7cf53_28 : decode cJ8_hugeLength_7cf53 28 = .ok (.ldc 208, 2) := by decide +kernel
theorem dJ8_hugeLength_7cf53_30 : decode cJ8_hugeLength_7cf53 30 = .ok (.invokevirtual 94, 3) := by decide +kernel
theorem dJ8_hugeLength_7cf53_33 : decode cJ8_hugeLength_7cf53 33 = .ok (.iload_n 1, 1) := by decide +kernel
theorem dJ8_hugeLength_7cf53_34 : decode cJ8_hugeLength_7cf53 34 = .ok (.invokevirtual 98, 3) := by decide +kernel
theorem dJ8_hugeLength_7cf53_37 : decode cJ8_hugeLength_7cf53 37 = .ok (.ldc 210, 2) := by decide +kernel
theorem dJ8_hugeLength_7cf53_39 : decode cJ8_hugeLength_7cf53 39 = .ok (.invokevirtual 94, 3) := by decide +kernel
theorem dJ8_hugeLength_7cf53_42 : decode cJ8_hugeLength_7cf53 42 = .ok (.invokevirtual 101, 3) := by decide +kernel
theorem dJ8_hugeLength_7cf53_45 : decode cJ8_hugeLength_7cf53 45 = .ok (.invokespecial 212, 3) := by decide +kernel
theorem dJ8_hugeLength_7cf53_48 : decode cJ8_hugeLength_7cf53 48 = .ok (.athrow, 1) := by decide +kernel
theorem dJ8_hugeLength_7cf53_49 : decode cJ8_hugeLength_7cf53 49 = .ok (.iload_n 2, 1) := by decide +kernel
theorem dJ8_hugeLength_7cf53_50 : decode cJ8_hugeLength_7cf53 50 = .ok (.ldc 200, 2) := by decide +kernel
theorem dJ8_hugeLength_7cf53_52 : decode cJ8_hugeLength_7cf53 52 = .ok (.if_icmp .gt 6, 3) := by decide +kernel
theorem dJ8_hugeLength_7cf53_55 : decode cJ8_hugeLength_7cf53 55 = .ok (.ldc 200, 2) := by decide +kernel
theorem dJ8_hugeLength_7cf53_57 : decode cJ8_hugeLength_7cf53 57 = .ok (.ireturn, 1) := by decide +kernel
theorem dJ8_hugeLength_7cf53_58 : decode cJ8_hugeLength_7cf53 58 = .ok (.iload_n 2, 1) := by decide +kernel
theorem dJ8_hugeLength_7cf53_59 : decode cJ8_hugeLength_7cf53 59 = .ok (.ireturn, 1) := by decide +kernel
theorem dJ3_checkIndex_8e157_0 : decode cJ3_checkIndex_8e157 0 = .ok (.iload_n 0, 1) := by decide +kernel
theorem dJ3_checkIndex_8e157_1 : decode cJ3_checkIndex_8e157 1 = .ok (.ifCond .lt 8, 3) := by decide +kernel
theorem dJ3_checkIndex_8e157_4 : decode cJ3_checkIndex_8e157 4 = .ok (.iload_n 0, 1) := by decide +kernel
theorem dJ3_checkIndex_8e157_5 : decode cJ3_checkIndex_8e157 5 = .ok (.iload_n 1, 1) := by decide +kernel
theorem dJ3_checkIndex_8e157_6 : decode cJ3_checkIndex_8e157 6 = .ok (.if_icmp .lt 10, 3) := by decide +kernel
theorem dJ3_checkIndex_8e157_9 : decode cJ3_checkIndex_8e157 9 = .ok (.aload_n 2, 1) := by decide +kernel
theorem dJ3_checkIndex_8e157_10 : decode cJ3_checkIndex_8e157 10 = .ok (.iload_n 0, 1) := by decide +kernel
theorem dJ3_checkIndex_8e157_11 : decode cJ3_checkIndex_8e157 11 = .ok (.iload_n 1, 1) := by decide +kernel
theorem dJ3_checkIndex_8e157_12 : decode cJ3_checkIndex_8e157 12 = .ok (.invokestatic 95, 3) := by decide +kernel
theorem dJ3_checkIndex_8e157_15 : decode cJ3_checkIndex_8e157 15 = .ok (.athrow, 1) := by decide +kernel
theorem dJ3_checkIndex_8e157_16 : decode cJ3_checkIndex_8e157 16 = .ok (.iload_n 0, 1) := by decide +kernel
theorem dJ3_checkIndex_8e157_17 : decode cJ3_checkIndex_8e157 17 = .ok (.ireturn, 1) := by decide +kernel
theorem dL_below_0 : decode cL_below 0 = .ok (.iload_n 0, 1) := by decide +kernel
theorem dL_below_1 : decode cL_below 1 = .ok (.ldc 7, 2) := by decide +kernel
theorem dL_below_3 : decode cL_below 3 = .ok (.iand, 1) := by decide +kernel
theorem dL_below_4 : decode cL_below 4 = .ok (.iload_n 1, 1) := by decide +kernel
theorem dL_below_5 : decode cL_below 5 = .ok (.irem, 1) := by decide +kernel
theorem dL_below_6 : decode cL_below 6 = .ok (.ireturn, 1) := by decide +kernel
theorem dL_cell_0 : decode cL_cell 0 = .ok (.iload_n 1, 1) := by decide +kernel
theorem dL_cell_1 : decode cL_cell 1 = .ok (.aload_n 0, 1) := by decide +kernel
theorem dL_cell_2 : decode cL_cell 2 = .ok (.arraylength, 1) := by decide +kernel
theorem dL_cell_3 : decode cL_cell 3 = .ok (.if_icmp .ge 9, 3) := by decide +kernel
theorem dL_cell_6 : decode cL_cell 6 = .ok (.aload_n 0, 1) := by decide +kernel
theorem dL_cell_7 : decode cL_cell 7 = .ok (.iload_n 1, 1) := by decide +kernel
theorem dL_cell_8 : decode cL_cell 8 = .ok (.iaload, 1) := by decide +kernel
theorem dL_cell_9 : decode cL_cell 9 = .ok (.goto 9, 3) := by decide +kernel
theorem dL_cell_12 : decode cL_cell 12 = .ok (.ldc 8, 2) := by decide +kernel
theorem dL_cell_14 : decode cL_cell 14 = .ok (.iload_n 1, 1) := by decide +kernel
theorem dL_cell_15 : decode cL_cell 15 = .ok (.iconst 3, 1) := by decide +kernel
theorem dL_cell_16 : decode cL_cell 16 = .ok (.iadd, 1) := by decide +kernel
theorem dL_cell_17 : decode cL_cell 17 = .ok (.imul, 1) := by decide +kernel
theorem dL_cell_18 : decode cL_cell 18 = .ok (.ireturn, 1) := by decide +kernel
theorem dL_build_0 : decode cL_build 0 = .ok (.new 9, 3) := by decide +kernel
theorem dL_build_3 : decode cL_build 3 = .ok (.dup, 1) := by decide +kernel
theorem dL_build_4 : decode cL_build 4 = .ok (.invokespecial 11, 3) := by decide +kernel
theorem dL_build_7 : decode cL_build 7 = .ok (.astore_n 2, 1) := by decide +kernel
theorem dL_build_8 : decode cL_build 8 = .ok (.iconst 3, 1) := by decide +kernel
theorem dL_build_9 : decode cL_build 9 = .ok (.aload_n 1, 1) := by decide +kernel
theorem dL_build_10 : decode cL_build 10 = .ok (.iconst 0, 1) := by decide +kernel
theorem dL_build_11 : decode cL_build 11 = .ok (.invokestatic 12, 3) := by decide +kernel
theorem dL_build_14 : decode cL_build 14 = .ok (.bipush 14, 2) := by decide +kernel
theorem dL_build_16 : decode cL_build 16 = .ok (.invokestatic 18, 3) := by decide +kernel
theorem dL_build_19 : decode cL_build 19 = .ok (.iadd, 1) := by decide +kernel
theorem dL_build_20 : decode cL_build 20 = .ok (.istore_n 3, 1) := by decide +kernel
theorem dL_build_21 : decode cL_build 21 = .ok (.aload_n 1, 1) := by decide +kernel
theorem dL_build_22 : decode cL_build 22 = .ok (.iconst 0, 1) := by decide +kernel
theorem dL_build_23 : decode cL_build 23 = .ok (.invokestatic 12, 3) := by decide +kernel
theorem dL_build_26 : decode cL_build 26 = .ok (.iconst 4, 1) := by decide +kernel
theorem dL_build_27 : decode cL_build 27 = .ok (.ishr, 1) := by decide +kernel
theorem dL_build_28 : decode cL_build 28 = .ok (.bipush 8, 2) := by decide +kernel
theorem dL_build_30 : decode cL_build 30 = .ok (.invokestatic 18, 3) := by decide +kernel
theorem dL_build_33 : decode cL_build 33 = .ok (.istore 4, 2) := by decide +kernel
theorem dL_build_35 : decode cL_build 35 = .ok (.aload_n 1, 1) := by decide +kernel
theorem dL_build_36 : decode cL_build 36 = .ok (.iconst 0, 1) := by decide +kernel
theorem dL_build_37 : decode cL_build 37 = .ok (.invokestatic 12, 3) := by decide +kernel
theorem dL_build_40 : decode cL_build 40 = .ok (.bipush 7, 2) := by decide +kernel
theorem dL_build_42 : decode cL_build 42 = .ok (.ishr, 1) := by decide +kernel
theorem dL_build_43 : decode cL_build 43 = .ok (.iconst 5, 1) := by decide +kernel
theorem dL_build_44 : decode cL_build 44 = .ok (.invokestatic 18, 3) := by decide +kernel
theorem dL_build_47 : decode cL_build 47 = .ok (.istore 5, 2) := by decide +kernel
theorem dL_build_49 : decode cL_build 49 = .ok (.iconst 0, 1) := by decide +kernel
theorem dL_build_50 : decode cL_build 50 = .ok (.istore 6, 2) := by decide +kernel
theorem dL_build_52 : decode cL_build 52 = .ok (.iload 6, 2) := by decide +kernel
theorem dL_build_54 : decode cL_build 54 = .ok (.iload_n 3, 1) := by decide +kernel
theorem dL_build_55 : decode cL_build 55 = .ok (.if_icmp .ge 133, 3) := by decide +kernel
theorem dL_build_58 : decode cL_build 58 = .ok (.aload_n 1, 1) := by decide +kernel
theorem dL_build_59 : decode cL_build 59 = .ok (.iconst 1, 1) := by decide +kernel
theorem dL_build_60 : decode cL_build 60 = .ok (.iload 6, 2) := by decide +kernel
theorem dL_build_62 : decode cL_build 62 = .ok (.iconst 3, 1) := by decide +kernel
theorem dL_build_63 : decode cL_build 63 = .ok (.irem, 1) := by decide +kernel
theorem dL_build_64 : decode cL_build 64 = .ok (.iadd, 1) := by decide +kernel
theorem dL_build_65 : decode cL_build 65 = .ok (.invokestatic 12, 3) := by decide +kernel
theorem dL_build_68 : decode cL_build 68 = .ok (.iload 6, 2) := by decide +kernel
theorem dL_build_70 : decode cL_build 70 = .ok (.ishr, 1) := by decide +kernel
theorem dL_build_71 : decode cL_build 71 = .ok (.bipush 7, 2) := by decide +kernel
theorem dL_build_73 : decode cL_build 73 = .ok (.iload 6, 2) := by decide +kernel
theorem dL_build_75 : decode cL_build 75 = .ok (.imul, 1) := by decide +kernel
theorem dL_build_76 : decode cL_build 76 = .ok (.iadd, 1) := by decide +kernel
theorem dL_build_77 : decode cL_build 77 = .ok (.istore 7, 2) := by decide +kernel
theorem dL_build_79 : decode cL_build 79 = .ok (.iload 4, 2) := by decide +kernel
theorem dL_build_81 : decode cL_build 81 = .ok (.iload 7, 2) := by decide +kernel
theorem dL_build_83 : decode cL_build 83 = .ok (.bipush 6, 2) := by decide +kernel
theorem dL_build_85 : decode cL_build 85 = .ok (.invokestatic 18, 3) := by decide +kernel
theorem dL_build_88 : decode cL_build 88 = .ok (.iadd, 1) := by decide +kernel
theorem dL_build_89 : decode cL_build 89 = .ok (.bipush 14, 2) := by decide +kernel
theorem dL_build_91 : decode cL_build 91 = .ok (.iload 5, 2) := by decide +kernel
theorem dL_build_93 : decode cL_build 93 = .ok (.iload 7, 2) := by decide +kernel
theorem dL_build_95 : decode cL_build 95 = .ok (.iconst 3, 1) := by decide +kernel
theorem dL_build_96 : decode cL_build 96 = .ok (.ishr, 1) := by decide +kernel
theorem dL_build_97 : decode cL_build 97 = .ok (.iconst 5, 1) := by decide +kernel
theorem dL_build_98 : decode cL_build 98 = .ok (.invokestatic 18, 3) := by decide +kernel
theorem dL_build_101 : decode cL_build 101 = .ok (.iadd, 1) := by decide +kernel
theorem dL_build_102 : decode cL_build 102 = .ok (.imul, 1) := by decide +kernel
theorem dL_build_103 : decode cL_build 103 = .ok (.iadd, 1) := by decide +kernel
theorem dL_build_104 : decode cL_build 104 = .ok (.istore 8, 2) := by decide +kernel
theorem dL_build_106 : decode cL_build 106 = .ok (.aload_n 2, 1) := by decide +kernel
theorem dL_build_107 : decode cL_build 107 = .ok (.iload 8, 2) := by decide +kernel
theorem dL_build_109 : decode cL_build 109 = .ok (.invokevirtual 22, 3) := by decide +kernel
theorem dL_build_112 : decode cL_build 112 = .ok (.ifCond .ne 6, 3) := by decide +kernel
theorem dL_build_115 : decode cL_build 115 = .ok (.goto 67, 3) := by decide +kernel
theorem dL_build_118 : decode cL_build 118 = .ok (.iconst 1, 1) := by decide +kernel
theorem dL_build_119 : decode cL_build 119 = .ok (.iload 7, 2) := by decide +kernel
theorem dL_build_121 : decode cL_build 121 = .ok (.iconst 5, 1) := by decide +kernel
theorem dL_build_122 : decode cL_build 122 = .ok (.ishr, 1) := by decide +kernel
theorem dL_build_123 : decode cL_build 123 = .ok (.bipush 9, 2) := by decide +kernel
theorem dL_build_125 : decode cL_build 125 = .ok (.invokestatic 18, 3) := by decide +kernel
theorem dL_build_128 : decode cL_build 128 = .ok (.iadd, 1) := by decide +kernel
theorem dL_build_129 : decode cL_build 129 = .ok (.istore 9, 2) := by decide +kernel
theorem dL_build_131 : decode cL_build 131 = .ok (.iconst 1, 1) := by decide +kernel
theorem dL_build_132 : decode cL_build 132 = .ok (.iload 7, 2) := by decide +kernel
theorem dL_build_134 : decode cL_build 134 = .ok (.iconst 2, 1) := by decide +kernel
theorem dL_build_135 : decode cL_build 135 = .ok (.ishr, 1) := by decide +kernel
theorem dL_build_136 : decode cL_build 136 = .ok (.bipush 60, 2) := by decide +kernel
theorem dL_build_138 : decode cL_build 138 = .ok (.invokestatic 18, 3) := by decide +kernel
theorem dL_build_141 : decode cL_build 141 = .ok (.iadd, 1) := by decide +kernel
theorem dL_build_142 : decode cL_build 142 = .ok (.istore 10, 2) := by decide +kernel
theorem dL_build_144 : decode cL_build 144 = .ok (.aload_n 0, 1) := by decide +kernel
theorem dL_build_145 : decode cL_build 145 = .ok (.iload 8, 2) := by decide +kernel
theorem dL_build_147 : decode cL_build 147 = .ok (.bipush 14, 2) := by decide +kernel
theorem dL_build_149 : decode cL_build 149 = .ok (.irem, 1) := by decide +kernel
theorem dL_build_150 : decode cL_build 150 = .ok (.iload 8, 2) := by decide +kernel
theorem dL_build_152 : decode cL_build 152 = .ok (.bipush 14, 2) := by decide +kernel
theorem dL_build_154 : decode cL_build 154 = .ok (.idiv, 1) := by decide +kernel
theorem dL_build_155 : decode cL_build 155 = .ok (.iload 9, 2) := by decide +kernel
theorem dL_build_157 : decode cL_build 157 = .ok (.iload 10, 2) := by decide +kernel
theorem dL_build_159 : decode cL_build 159 = .ok (.invokevirtual 26, 3) := by decide +kernel
theorem dL_build_162 : decode cL_build 162 = .ok (.aload_n 2, 1) := by decide +kernel
theorem dL_build_163 : decode cL_build 163 = .ok (.getfield 32, 3) := by decide +kernel
theorem dL_build_166 : decode cL_build 166 = .ok (.arraylength, 1) := by decide +kernel
theorem dL_build_167 : decode cL_build 167 = .ok (.if_icmp .eq 5, 3) := by decide +kernel
theorem dL_build_170 : decode cL_build 170 = .ok (.aconst_null, 1) := by decide +kernel
theorem dL_build_171 : decode cL_build 171 = .ok (.areturn, 1) := by decide +kernel
theorem dL_build_172 : decode cL_build 172 = .ok (.aload_n 2, 1) := by decide +kernel
theorem dL_build_173 : decode cL_build 173 = .ok (.iload 8, 2) := by decide +kernel
theorem dL_build_175 : decode cL_build 175 = .ok (.iload 9, 2) := by decide +kernel
theorem dL_build_177 : decode cL_build 177 = .ok (.iload 10, 2) := by decide +kernel
theorem dL_build_179 : decode cL_build 179 = .ok (.invokevirtual 36, 3) := by decide +kernel
theorem dL_build_182 : decode cL_build 182 = .ok (.iinc 6 1, 3) := by decide +kernel
theorem dL_build_185 : decode cL_build 185 = .ok (.goto (-133), 3) := by decide +kernel
theorem dL_build_188 : decode cL_build 188 = .ok (.iconst 1, 1) := by decide +kernel
theorem dL_build_189 : decode cL_build 189 = .ok (.aload_n 1, 1) := by decide +kernel
theorem dL_build_190 : decode cL_build 190 = .ok (.iconst 4, 1) := by decide +kernel
theorem dL_build_191 : decode cL_build 191 = .ok (.invokestatic 12, 3) := by decide +kernel
theorem dL_build_194 : decode cL_build 194 = .ok (.iconst 3, 1) := by decide +kernel
theorem dL_build_195 : decode cL_build 195 = .ok (.invokestatic 18, 3) := by decide +kernel
theorem dL_build_198 : decode cL_build 198 = .ok (.iadd, 1) := by decide +kernel
theorem dL_build_199 : decode cL_build 199 = .ok (.istore 6, 2) := by decide +kernel
theorem dL_build_201 : decode cL_build 201 = .ok (.iconst 0, 1) := by decide +kernel
theorem dL_build_202 : decode cL_build 202 = .ok (.istore 7, 2) := by decide +kernel
theorem dL_build_204 : decode cL_build 204 = .ok (.iload 7, 2) := by decide +kernel
theorem dL_build_206 : decode cL_build 206 = .ok (.iload 6, 2) := by decide +kernel
theorem dL_build_208 : decode cL_build 208 = .ok (.if_icmp .ge 124, 3) := by decide +kernel
theorem dL_build_211 : decode cL_build 211 = .ok (.aload_n 1, 1) := by decide +kernel
theorem dL_build_212 : decode cL_build 212 = .ok (.iconst 5, 1) := by decide +kernel
theorem dL_build_213 : decode cL_build 213 = .ok (.invokestatic 12, 3) := by decide +kernel
theorem dL_build_216 : decode cL_build 216 = .ok (.iconst 3, 1) := by decide +kernel
theorem dL_build_217 : decode cL_build 217 = .ok (.iload 7, 2) := by decide +kernel
theorem dL_build_219 : decode cL_build 219 = .ok (.imul, 1) := by decide +kernel
theorem dL_build_220 : decode cL_build 220 = .ok (.ishr, 1) := by decide +kernel
theorem dL_build_221 : decode cL_build 221 = .ok (.istore 8, 2) := by decide +kernel
theorem dL_build_223 : decode cL_build 223 = .ok (.iload 4, 2) := by decide +kernel
theorem dL_build_225 : decode cL_build 225 = .ok (.iload 8, 2) := by decide +kernel
theorem dL_build_227 : decode cL_build 227 = .ok (.bipush 6, 2) := by decide +kernel
theorem dL_build_229 : decode cL_build 229 = .ok (.invokestatic 18, 3) := by decide +kernel
theorem dL_build_232 : decode cL_build 232 = .ok (.iadd, 1) := by decide +kernel
theorem dL_build_233 : decode cL_build 233 = .ok (.bipush 14, 2) := by decide +kernel
theorem dL_build_235 : decode cL_build 235 = .ok (.iload 5, 2) := by decide +kernel
theorem dL_build_237 : decode cL_build 237 = .ok (.iload 8, 2) := by decide +kernel
theorem dL_build_239 : decode cL_build 239 = .ok (.iconst 3, 1) := by decide +kernel
theorem dL_build_240 : decode cL_build 240 = .ok (.ishr, 1) := by decide +kernel
theorem dL_build_241 : decode cL_build 241 = .ok (.iconst 5, 1) := by decide +kernel
theorem dL_build_242 : decode cL_build 242 = .ok (.invokestatic 18, 3) := by decide +kernel
theorem dL_build_245 : decode cL_build 245 = .ok (.iadd, 1) := by decide +kernel
theorem dL_build_246 : decode cL_build 246 = .ok (.imul, 1) := by decide +kernel
theorem dL_build_247 : decode cL_build 247 = .ok (.iadd, 1) := by decide +kernel
theorem dL_build_248 : decode cL_build 248 = .ok (.istore 9, 2) := by decide +kernel
theorem dL_build_250 : decode cL_build 250 = .ok (.aload_n 2, 1) := by decide +kernel
theorem dL_build_251 : decode cL_build 251 = .ok (.iload 9, 2) := by decide +kernel
theorem dL_build_253 : decode cL_build 253 = .ok (.invokevirtual 22, 3) := by decide +kernel
theorem dL_build_256 : decode cL_build 256 = .ok (.ifCond .ne 6, 3) := by decide +kernel
theorem dL_build_259 : decode cL_build 259 = .ok (.goto 67, 3) := by decide +kernel
theorem dL_build_262 : decode cL_build 262 = .ok (.iload 8, 2) := by decide +kernel
theorem dL_build_264 : decode cL_build 264 = .ok (.iconst 5, 1) := by decide +kernel
theorem dL_build_265 : decode cL_build 265 = .ok (.ishr, 1) := by decide +kernel
theorem dL_build_266 : decode cL_build 266 = .ok (.iload 8, 2) := by decide +kernel
theorem dL_build_268 : decode cL_build 268 = .ok (.bipush 8, 2) := by decide +kernel
theorem dL_build_270 : decode cL_build 270 = .ok (.ishr, 1) := by decide +kernel
theorem dL_build_271 : decode cL_build 271 = .ok (.iconst 2, 1) := by decide +kernel
theorem dL_build_272 : decode cL_build 272 = .ok (.invokestatic 18, 3) := by decide +kernel
theorem dL_build_275 : decode cL_build 275 = .ok (.ifCond .ne 9, 3) := by decide +kernel
theorem dL_build_278 : decode cL_build 278 = .ok (.sipush 5001, 3) := by decide +kernel
theorem dL_build_281 : decode cL_build 281 = .ok (.goto 6, 3) := by decide +kernel
theorem dL_build_284 : decode cL_build 284 = .ok (.sipush 300, 3) := by decide +kernel
theorem dL_build_287 : decode cL_build 287 = .ok (.invokestatic 18, 3) := by decide +kernel
theorem dL_build_290 : decode cL_build 290 = .ok (.istore 10, 2) := by decide +kernel
theorem dL_build_292 : decode cL_build 292 = .ok (.aload_n 0, 1) := by decide +kernel
theorem dL_build_293 : decode cL_build 293 = .ok (.iload 9, 2) := by decide +kernel
theorem dL_build_295 : decode cL_build 295 = .ok (.bipush 14, 2) := by decide +kernel
theorem dL_build_297 : decode cL_build 297 = .ok (.irem, 1) := by decide +kernel
theorem dL_build_298 : decode cL_build 298 = .ok (.iload 9, 2) := by decide +kernel
theorem dL_build_300 : decode cL_build 300 = .ok (.bipush 14, 2) := by decide +kernel
theorem dL_build_302 : decode cL_build 302 = .ok (.idiv, 1) := by decide +kernel
theorem dL_build_303 : decode cL_build 303 = .ok (.iload 10, 2) := by decide +kernel
theorem dL_build_305 : decode cL_build 305 = .ok (.invokevirtual 39, 3) := by decide +kernel
theorem dL_build_308 : decode cL_build 308 = .ok (.aload_n 2, 1) := by decide +kernel
theorem dL_build_309 : decode cL_build 309 = .ok (.getfield 43, 3) := by decide +kernel
theorem dL_build_312 : decode cL_build 312 = .ok (.arraylength, 1) := by decide +kernel
theorem dL_build_313 : decode cL_build 313 = .ok (.if_icmp .eq 5, 3) := by decide +kernel
theorem dL_build_316 : decode cL_build 316 = .ok (.aconst_null, 1) := by decide +kernel
theorem dL_build_317 : decode cL_build 317 = .ok (.areturn, 1) := by decide +kernel
theorem dL_build_318 : decode cL_build 318 = .ok (.aload_n 2, 1) := by decide +kernel
theorem dL_build_319 : decode cL_build 319 = .ok (.iload 9, 2) := by decide +kernel
theorem dL_build_321 : decode cL_build 321 = .ok (.iload 10, 2) := by decide +kernel
theorem dL_build_323 : decode cL_build 323 = .ok (.invokevirtual 47, 3) := by decide +kernel
theorem dL_build_326 : decode cL_build 326 = .ok (.iinc 7 1, 3) := by decide +kernel
theorem dL_build_329 : decode cL_build 329 = .ok (.goto (-125), 3) := by decide +kernel
theorem dL_build_332 : decode cL_build 332 = .ok (.iconst 1, 1) := by decide +kernel
theorem dL_build_333 : decode cL_build 333 = .ok (.aload_n 1, 1) := by decide +kernel
theorem dL_build_334 : decode cL_build 334 = .ok (.bipush 6, 2) := by decide +kernel
theorem dL_build_336 : decode cL_build 336 = .ok (.invokestatic 12, 3) := by decide +kernel
theorem dL_build_339 : decode cL_build 339 = .ok (.bipush 6, 2) := by decide +kernel
theorem dL_build_341 : decode cL_build 341 = .ok (.invokestatic 18, 3) := by decide +kernel
theorem dL_build_344 : decode cL_build 344 = .ok (.iadd, 1) := by decide +kernel
theorem dL_build_345 : decode cL_build 345 = .ok (.istore 7, 2) := by decide +kernel
theorem dL_build_347 : decode cL_build 347 = .ok (.iconst 0, 1) := by decide +kernel
theorem dL_build_348 : decode cL_build 348 = .ok (.istore 8, 2) := by decide +kernel
theorem dL_build_350 : decode cL_build 350 = .ok (.iload 8, 2) := by decide +kernel
theorem dL_build_352 : decode cL_build 352 = .ok (.iload 7, 2) := by decide +kernel
theorem dL_build_354 : decode cL_build 354 = .ok (.if_icmp .ge 155, 3) := by decide +kernel
theorem dL_build_357 : decode cL_build 357 = .ok (.aload_n 1, 1) := by decide +kernel
theorem dL_build_358 : decode cL_build 358 = .ok (.bipush 7, 2) := by decide +kernel
theorem dL_build_360 : decode cL_build 360 = .ok (.iload 8, 2) := by decide +kernel
theorem dL_build_362 : decode cL_build 362 = .ok (.iconst 2, 1) := by decide +kernel
theorem dL_build_363 : decode cL_build 363 = .ok (.irem, 1) := by decide +kernel
theorem dL_build_364 : decode cL_build 364 = .ok (.iadd, 1) := by decide +kernel
theorem dL_build_365 : decode cL_build 365 = .ok (.invokestatic 12, 3) := by decide +kernel
theorem dL_build_368 : decode cL_build 368 = .ok (.iload 8, 2) := by decide +kernel
theorem dL_build_370 : decode cL_build 370 = .ok (.ishr, 1) := by decide +kernel
theorem dL_build_371 : decode cL_build 371 = .ok (.iconst 5, 1) := by decide +kernel
theorem dL_build_372 : decode cL_build 372 = .ok (.iload 8, 2) := by decide +kernel
theorem dL_build_374 : decode cL_build 374 = .ok (.imul, 1) := by decide +kernel
theorem dL_build_375 : decode cL_build 375 = .ok (.iadd, 1) := by decide +kernel
theorem dL_build_376 : decode cL_build 376 = .ok (.istore 9, 2) := by decide +kernel
theorem dL_build_378 : decode cL_build 378 = .ok (.iload 9, 2) := by decide +kernel
theorem dL_build_380 : decode cL_build 380 = .ok (.bipush 7, 2) := by decide +kernel
theorem dL_build_382 : decode cL_build 382 = .ok (.ishr, 1) := by decide +kernel
theorem dL_build_383 : decode cL_build 383 = .ok (.iconst 4, 1) := by decide +kernel
theorem dL_build_384 : decode cL_build 384 = .ok (.invokestatic 18, 3) := by decide +kernel
theorem dL_build_387 : decode cL_build 387 = .ok (.ifCond .ne 14, 3) := by decide +kernel
theorem dL_build_390 : decode cL_build 390 = .ok (.iload 9, 2) := by decide +kernel
theorem dL_build_392 : decode cL_build 392 = .ok (.sipush 140, 3) := by decide +kernel
theorem dL_build_395 : decode cL_build 395 = .ok (.invokestatic 18, 3) := by decide +kernel
theorem dL_build_398 : decode cL_build 398 = .ok (.goto 28, 3) := by decide +kernel
theorem dL_build_401 : decode cL_build 401 = .ok (.iload 4, 2) := by decide +kernel
theorem dL_build_403 : decode cL_build 403 = .ok (.iload 9, 2) := by decide +kernel
theorem dL_build_405 : decode cL_build 405 = .ok (.bipush 6, 2) := by decide +kernel
theorem dL_build_407 : decode cL_build 407 = .ok (.invokestatic 18, 3) := by decide +kernel
theorem dL_build_410 : decode cL_build 410 = .ok (.iadd, 1) := by decide +kernel
theorem dL_build_411 : decode cL_build 411 = .ok (.bipush 14, 2) := by decide +kernel
theorem dL_build_413 : decode cL_build 413 = .ok (.iload 5, 2) := by decide +kernel
theorem dL_build_415 : decode cL_build 415 = .ok (.iload 9, 2) := by decide +kernel
theorem dL_build_417 : decode cL_build 417 = .ok (.iconst 3, 1) := by decide +kernel
theorem dL_build_418 : decode cL_build 418 = .ok (.ishr, 1) := by decide +kernel
theorem dL_build_419 : decode cL_build 419 = .ok (.iconst 5, 1) := by decide +kernel
theorem dL_build_420 : decode cL_build 420 = .ok (.invokestatic 18, 3) := by decide +kernel
theorem dL_build_423 : decode cL_build 423 = .ok (.iadd, 1) := by decide +kernel
theorem dL_build_424 : decode cL_build 424 = .ok (.imul, 1) := by decide +kernel
theorem dL_build_425 : decode cL_build 425 = .ok (.iadd, 1) := by decide +kernel
theorem dL_build_426 : decode cL_build 426 = .ok (.istore 10, 2) := by decide +kernel
theorem dL_build_428 : decode cL_build 428 = .ok (.aload_n 2, 1) := by decide +kernel
theorem dL_build_429 : decode cL_build 429 = .ok (.iload 10, 2) := by decide +kernel
theorem dL_build_431 : decode cL_build 431 = .ok (.invokevirtual 50, 3) := by decide +kernel
theorem dL_build_434 : decode cL_build 434 = .ok (.ifCond .ne 6, 3) := by decide +kernel
theorem dL_build_437 : decode cL_build 437 = .ok (.goto 66, 3) := by decide +kernel
theorem dL_build_440 : decode cL_build 440 = .ok (.iconst 1, 1) := by decide +kernel
theorem dL_build_441 : decode cL_build 441 = .ok (.iload 9, 2) := by decide +kernel
theorem dL_build_443 : decode cL_build 443 = .ok (.iconst 2, 1) := by decide +kernel
theorem dL_build_444 : decode cL_build 444 = .ok (.ishr, 1) := by decide +kernel
theorem dL_build_445 : decode cL_build 445 = .ok (.iconst 4, 1) := by decide +kernel
theorem dL_build_446 : decode cL_build 446 = .ok (.invokestatic 18, 3) := by decide +kernel
theorem dL_build_449 : decode cL_build 449 = .ok (.iadd, 1) := by decide +kernel
theorem dL_build_450 : decode cL_build 450 = .ok (.istore 11, 2) := by decide +kernel
theorem dL_build_452 : decode cL_build 452 = .ok (.iconst 1, 1) := by decide +kernel
theorem dL_build_453 : decode cL_build 453 = .ok (.iload 9, 2) := by decide +kernel
theorem dL_build_455 : decode cL_build 455 = .ok (.iconst 4, 1) := by decide +kernel
theorem dL_build_456 : decode cL_build 456 = .ok (.ishr, 1) := by decide +kernel
theorem dL_build_457 : decode cL_build 457 = .ok (.bipush 20, 2) := by decide +kernel
theorem dL_build_459 : decode cL_build 459 = .ok (.invokestatic 18, 3) := by decide +kernel
theorem dL_build_462 : decode cL_build 462 = .ok (.iadd, 1) := by decide +kernel
theorem dL_build_463 : decode cL_build 463 = .ok (.istore 12, 2) := by decide +kernel
theorem dL_build_465 : decode cL_build 465 = .ok (.aload_n 0, 1) := by decide +kernel
theorem dL_build_466 : decode cL_build 466 = .ok (.iload 10, 2) := by decide +kernel
theorem dL_build_468 : decode cL_build 468 = .ok (.bipush 14, 2) := by decide +kernel
theorem dL_build_470 : decode cL_build 470 = .ok (.irem, 1) := by decide +kernel
theorem dL_build_471 : decode cL_build 471 = .ok (.iload 10, 2) := by decide +kernel
theorem dL_build_473 : decode cL_build 473 = .ok (.bipush 14, 2) := by decide +kernel
theorem dL_build_475 : decode cL_build 475 = .ok (.idiv, 1) := by decide +kernel
theorem dL_build_476 : decode cL_build 476 = .ok (.iload 11, 2) := by decide +kernel
theorem dL_build_478 : decode cL_build 478 = .ok (.iload 12, 2) := by decide +kernel
theorem dL_build_480 : decode cL_build 480 = .ok (.invokevirtual 53, 3) := by decide +kernel
theorem dL_build_483 : decode cL_build 483 = .ok (.aload_n 2, 1) := by decide +kernel
theorem dL_build_484 : decode cL_build 484 = .ok (.getfield 56, 3) := by decide +kernel
theorem dL_build_487 : decode cL_build 487 = .ok (.arraylength, 1) := by decide +kernel
theorem dL_build_488 : decode cL_build 488 = .ok (.if_icmp .eq 5, 3) := by decide +kernel
theorem dL_build_491 : decode cL_build 491 = .ok (.aconst_null, 1) := by decide +kernel
theorem dL_build_492 : decode cL_build 492 = .ok (.areturn, 1) := by decide +kernel
theorem dL_build_493 : decode cL_build 493 = .ok (.aload_n 2, 1) := by decide +kernel
theorem dL_build_494 : decode cL_build 494 = .ok (.iload 10, 2) := by decide +kernel
theorem dL_build_496 : decode cL_build 496 = .ok (.iload 11, 2) := by decide +kernel
theorem dL_build_498 : decode cL_build 498 = .ok (.iload 12, 2) := by decide +kernel
theorem dL_build_500 : decode cL_build 500 = .ok (.invokevirtual 60, 3) := by decide +kernel
theorem dL_build_503 : decode cL_build 503 = .ok (.iinc 8 1, 3) := by decide +kernel
theorem dL_build_506 : decode cL_build 506 = .ok (.goto (-156), 3) := by decide +kernel
theorem dL_build_509 : decode cL_build 509 = .ok (.iconst 1, 1) := by decide +kernel
theorem dL_build_510 : decode cL_build 510 = .ok (.aload_n 1, 1) := by decide +kernel
theorem dL_build_511 : decode cL_build 511 = .ok (.bipush 9, 2) := by decide +kernel
theorem dL_build_513 : decode cL_build 513 = .ok (.invokestatic 12, 3) := by decide +kernel
theorem dL_build_516 : decode cL_build 516 = .ok (.iconst 3, 1) := by decide +kernel
theorem dL_build_517 : decode cL_build 517 = .ok (.invokestatic 18, 3) := by decide +kernel
theorem dL_build_520 : decode cL_build 520 = .ok (.iadd, 1) := by decide +kernel
theorem dL_build_521 : decode cL_build 521 = .ok (.istore 8, 2) := by decide +kernel
theorem dL_build_523 : decode cL_build 523 = .ok (.iconst 0, 1) := by decide +kernel
theorem dL_build_524 : decode cL_build 524 = .ok (.istore 9, 2) := by decide +kernel
theorem dL_build_526 : decode cL_build 526 = .ok (.iload 9, 2) := by decide +kernel
theorem dL_build_528 : decode cL_build 528 = .ok (.iload 8, 2) := by decide +kernel
theorem dL_build_530 : decode cL_build 530 = .ok (.if_icmp .ge 30, 3) := by decide +kernel
theorem dL_build_533 : decode cL_build 533 = .ok (.aload_n 0, 1) := by decide +kernel
theorem dL_build_534 : decode cL_build 534 = .ok (.aload_n 2, 1) := by decide +kernel
theorem dL_build_535 : decode cL_build 535 = .ok (.aload_n 1, 1) := by decide +kernel
theorem dL_build_536 : decode cL_build 536 = .ok (.bipush 9, 2) := by decide +kernel
theorem dL_build_538 : decode cL_build 538 = .ok (.invokestatic 12, 3) := by decide +kernel
theorem dL_build_541 : decode cL_build 541 = .ok (.iconst 2, 1) := by decide +kernel
theorem dL_build_542 : decode cL_build 542 = .ok (.iload 9, 2) := by decide +kernel
theorem dL_build_544 : decode cL_build 544 = .ok (.imul, 1) := by decide +kernel
theorem dL_build_545 : decode cL_build 545 = .ok (.ishr, 1) := by decide +kernel
theorem dL_build_546 : decode cL_build 546 = .ok (.invokestatic 63, 3) := by decide +kernel
theorem dL_build_549 : decode cL_build 549 = .ok (.ifCond .ne 5, 3) := by decide +kernel
theorem dL_build_552 : decode cL_build 552 = .ok (.aconst_null, 1) := by decide +kernel
theorem dL_build_553 : decode cL_build 553 = .ok (.areturn, 1) := by decide +kernel
theorem dL_build_554 : decode cL_build 554 = .ok (.iinc 9 1, 3) := by decide +kernel
theorem dL_build_557 : decode cL_build 557 = .ok (.goto (-31), 3) := by decide +kernel
theorem dL_build_560 : decode cL_build 560 = .ok (.aload_n 2, 1) := by decide +kernel
theorem dL_build_561 : decode cL_build 561 = .ok (.areturn, 1) := by decide +kernel
theorem dL_light_0 : decode cL_light 0 = .ok (.aload_n 1, 1) := by decide +kernel
theorem dL_light_1 : decode cL_light 1 = .ok (.getfield 32, 3) := by decide +kernel
theorem dL_light_4 : decode cL_light 4 = .ok (.iload_n 2, 1) := by decide +kernel
theorem dL_light_5 : decode cL_light 5 = .ok (.aload_n 1, 1) := by decide +kernel
theorem dL_light_6 : decode cL_light 6 = .ok (.getfield 32, 3) := by decide +kernel
theorem dL_light_9 : decode cL_light 9 = .ok (.arraylength, 1) := by decide +kernel
theorem dL_light_10 : decode cL_light 10 = .ok (.invokestatic 18, 3) := by decide +kernel
theorem dL_light_13 : decode cL_light 13 = .ok (.aaload, 1) := by decide +kernel
theorem dL_light_14 : decode cL_light 14 = .ok (.astore_n 3, 1) := by decide +kernel
theorem dL_light_15 : decode cL_light 15 = .ok (.aload_n 3, 1) := by decide +kernel
theorem dL_light_16 : decode cL_light 16 = .ok (.getfield 67, 3) := by decide +kernel
theorem dL_light_19 : decode cL_light 19 = .ok (.ifCond .eq 5, 3) := by decide +kernel
theorem dL_light_22 : decode cL_light 22 = .ok (.iconst 1, 1) := by decide +kernel
theorem dL_light_23 : decode cL_light 23 = .ok (.ireturn, 1) := by decide +kernel
theorem dL_light_24 : decode cL_light 24 = .ok (.aload_n 3, 1) := by decide +kernel
theorem dL_light_25 : decode cL_light 25 = .ok (.iconst 1, 1) := by decide +kernel
theorem dL_light_26 : decode cL_light 26 = .ok (.putfield 67, 3) := by decide +kernel
theorem dL_light_29 : decode cL_light 29 = .ok (.aload_n 3, 1) := by decide +kernel
theorem dL_light_30 : decode cL_light 30 = .ok (.iconst 1, 1) := by decide +kernel
theorem dL_light_31 : decode cL_light 31 = .ok (.iload_n 2, 1) := by decide +kernel
theorem dL_light_32 : decode cL_light 32 = .ok (.iconst 3, 1) := by decide +kernel
theorem dL_light_33 : decode cL_light 33 = .ok (.ishr, 1) := by decide +kernel
theorem dL_light_34 : decode cL_light 34 = .ok (.bipush 99, 2) := by decide +kernel
theorem dL_light_36 : decode cL_light 36 = .ok (.invokestatic 18, 3) := by decide +kernel
theorem dL_light_39 : decode cL_light 39 = .ok (.iadd, 1) := by decide +kernel
theorem dL_light_40 : decode cL_light 40 = .ok (.putfield 73, 3) := by decide +kernel
theorem dL_light_43 : decode cL_light 43 = .ok (.aload_n 0, 1) := by decide +kernel
theorem dL_light_44 : decode cL_light 44 = .ok (.iload_n 2, 1) := by decide +kernel
theorem dL_light_45 : decode cL_light 45 = .ok (.aload_n 1, 1) := by decide +kernel
theorem dL_light_46 : decode cL_light 46 = .ok (.getfield 32, 3) := by decide +kernel
theorem dL_light_49 : decode cL_light 49 = .ok (.arraylength, 1) := by decide +kernel
theorem dL_light_50 : decode cL_light 50 = .ok (.invokestatic 18, 3) := by decide +kernel
theorem dL_light_53 : decode cL_light 53 = .ok (.aload_n 3, 1) := by decide +kernel
theorem dL_light_54 : decode cL_light 54 = .ok (.getfield 73, 3) := by decide +kernel
theorem dL_light_57 : decode cL_light 57 = .ok (.invokevirtual 76, 3) := by decide +kernel
theorem dL_light_60 : decode cL_light 60 = .ok (.aload_n 1, 1) := by decide +kernel
theorem dL_light_61 : decode cL_light 61 = .ok (.iconst 1, 1) := by decide +kernel
theorem dL_light_62 : decode cL_light 62 = .ok (.invokevirtual 78, 3) := by decide +kernel
theorem dL_light_65 : decode cL_light 65 = .ok (.if_icmp .ne 7, 3) := by decide +kernel
theorem dL_light_68 : decode cL_light 68 = .ok (.iconst 1, 1) := by decide +kernel
theorem dL_light_69 : decode cL_light 69 = .ok (.goto 4, 3) := by decide +kernel
theorem dL_light_72 : decode cL_light 72 = .ok (.iconst 0, 1) := by decide +kernel
theorem dL_light_73 : decode cL_light 73 = .ok (.ireturn, 1) := by decide +kernel
theorem dL_act_0 : decode cL_act 0 = .ok (.aload_n 1, 1) := by decide +kernel
theorem dL_act_1 : decode cL_act 1 = .ok (.getfield 56, 3) := by decide +kernel
theorem dL_act_4 : decode cL_act 4 = .ok (.arraylength, 1) := by decide +kernel
theorem dL_act_5 : decode cL_act 5 = .ok (.ifCond .ne 10, 3) := by decide +kernel
theorem dL_act_8 : decode cL_act 8 = .ok (.aload_n 0, 1) := by decide +kernel
theorem dL_act_9 : decode cL_act 9 = .ok (.aload_n 1, 1) := by decide +kernel
theorem dL_act_10 : decode cL_act 10 = .ok (.iload_n 2, 1) := by decide +kernel
theorem dL_act_11 : decode cL_act 11 = .ok (.invokestatic 63, 3) := by decide +kernel
theorem dL_act_14 : decode cL_act 14 = .ok (.ireturn, 1) := by decide +kernel
theorem dL_act_15 : decode cL_act 15 = .ok (.iload_n 2, 1) := by decide +kernel
theorem dL_act_16 : decode cL_act 16 = .ok (.aload_n 1, 1) := by decide +kernel
theorem dL_act_17 : decode cL_act 17 = .ok (.getfield 56, 3) := by decide +kernel
theorem dL_act_20 : decode cL_act 20 = .ok (.arraylength, 1) := by decide +kernel
theorem dL_act_21 : decode cL_act 21 = .ok (.invokestatic 18, 3) := by decide +kernel
theorem dL_act_24 : decode cL_act 24 = .ok (.istore_n 3, 1) := by decide +kernel
theorem dL_act_25 : decode cL_act 25 = .ok (.aload_n 1, 1) := by decide +kernel
theorem dL_act_26 : decode cL_act 26 = .ok (.getfield 56, 3) := by decide +kernel
theorem dL_act_29 : decode cL_act 29 = .ok (.iload_n 3, 1) := by decide +kernel
theorem dL_act_30 : decode cL_act 30 = .ok (.aaload, 1) := by decide +kernel
theorem dL_act_31 : decode cL_act 31 = .ok (.astore 4, 2) := by decide +kernel
theorem dL_act_33 : decode cL_act 33 = .ok (.iload_n 2, 1) := by decide +kernel
theorem dL_act_34 : decode cL_act 34 = .ok (.bipush 8, 2) := by decide +kernel
theorem dL_act_36 : decode cL_act 36 = .ok (.ishr, 1) := by decide +kernel
theorem dL_act_37 : decode cL_act 37 = .ok (.bipush 6, 2) := by decide +kernel
theorem dL_act_39 : decode cL_act 39 = .ok (.invokestatic 18, 3) := by decide +kernel
theorem dL_act_42 : decode cL_act 42 = .ok (.tableswitch 459 0 4 #[34, 191, 301, 301, 391], 34) := by decide +kernel
theorem dL_act_76 : decode cL_act 76 = .ok (.iload_n 2, 1) := by decide +kernel
theorem dL_act_77 : decode cL_act 77 = .ok (.iconst 2, 1) := by decide +kernel
theorem dL_act_78 : decode cL_act 78 = .ok (.ishr, 1) := by decide +kernel
theorem dL_act_79 : decode cL_act 79 = .ok (.sipush 140, 3) := by decide +kernel
theorem dL_act_82 : decode cL_act 82 = .ok (.invokestatic 18, 3) := by decide +kernel
theorem dL_act_85 : decode cL_act 85 = .ok (.istore 5, 2) := by decide +kernel
theorem dL_act_87 : decode cL_act 87 = .ok (.aload 4, 2) := by decide +kernel
theorem dL_act_89 : decode cL_act 89 = .ok (.getfield 82, 3) := by decide +kernel
theorem dL_act_92 : decode cL_act 92 = .ok (.ifCond .gt 13, 3) := by decide +kernel
theorem dL_act_95 : decode cL_act 95 = .ok (.aload 4, 2) := by decide +kernel
theorem dL_act_97 : decode cL_act 97 = .ok (.getfield 87, 3) := by decide +kernel
theorem dL_act_100 : decode cL_act 100 = .ok (.iload 5, 2) := by decide +kernel
theorem dL_act_102 : decode cL_act 102 = .ok (.if_icmp .ne 5, 3) := by decide +kernel
theorem dL_act_105 : decode cL_act 105 = .ok (.iconst 1, 1) := by decide +kernel
theorem dL_act_106 : decode cL_act 106 = .ok (.ireturn, 1) := by decide +kernel
theorem dL_act_107 : decode cL_act 107 = .ok (.aload_n 1, 1) := by decide +kernel
theorem dL_act_108 : decode cL_act 108 = .ok (.aload 4, 2) := by decide +kernel
theorem dL_act_110 : decode cL_act 110 = .ok (.getfield 87, 3) := by decide +kernel
theorem dL_act_113 : decode cL_act 113 = .ok (.iload 5, 2) := by decide +kernel
theorem dL_act_115 : decode cL_act 115 = .ok (.invokevirtual 89, 3) := by decide +kernel
theorem dL_act_118 : decode cL_act 118 = .ok (.istore 6, 2) := by decide +kernel
theorem dL_act_120 : decode cL_act 120 = .ok (.iload 6, 2) := by decide +kernel
theorem dL_act_122 : decode cL_act 122 = .ok (.ifCond .ge 5, 3) := by decide +kernel
theorem dL_act_125 : decode cL_act 125 = .ok (.iconst 1, 1) := by decide +kernel
theorem dL_act_126 : decode cL_act 126 = .ok (.ireturn, 1) := by decide +kernel
theorem dL_act_127 : decode cL_act 127 = .ok (.aload 4, 2) := by decide +kernel
theorem dL_act_129 : decode cL_act 129 = .ok (.iload 6, 2) := by decide +kernel
theorem dL_act_131 : decode cL_act 131 = .ok (.iconst 5, 1) := by decide +kernel
theorem dL_act_132 : decode cL_act 132 = .ok (.aload 4, 2) := by decide +kernel
theorem dL_act_134 : decode cL_act 134 = .ok (.getfield 92, 3) := by decide +kernel
theorem dL_act_137 : decode cL_act 137 = .ok (.isub, 1) := by decide +kernel
theorem dL_act_138 : decode cL_act 138 = .ok (.imul, 1) := by decide +kernel
theorem dL_act_139 : decode cL_act 139 = .ok (.putfield 82, 3) := by decide +kernel
theorem dL_act_142 : decode cL_act 142 = .ok (.aload 4, 2) := by decide +kernel
theorem dL_act_144 : decode cL_act 144 = .ok (.iload 5, 2) := by decide +kernel
theorem dL_act_146 : decode cL_act 146 = .ok (.putfield 95, 3) := by decide +kernel
theorem dL_act_149 : decode cL_act 149 = .ok (.aload 4, 2) := by decide +kernel
theorem dL_act_151 : decode cL_act 151 = .ok (.iconst (-1), 1) := by decide +kernel
theorem dL_act_152 : decode cL_act 152 = .ok (.putfield 98, 3) := by decide +kernel
theorem dL_act_155 : decode cL_act 155 = .ok (.aload_n 1, 1) := by decide +kernel
theorem dL_act_156 : decode cL_act 156 = .ok (.getfield 56, 3) := by decide +kernel
theorem dL_act_159 : decode cL_act 159 = .ok (.astore 7, 2) := by decide +kernel
theorem dL_act_161 : decode cL_act 161 = .ok (.aload 7, 2) := by decide +kernel
theorem dL_act_163 : decode cL_act 163 = .ok (.arraylength, 1) := by decide +kernel
theorem dL_act_164 : decode cL_act 164 = .ok (.istore 8, 2) := by decide +kernel
theorem dL_act_166 : decode cL_act 166 = .ok (.iconst 0, 1) := by decide +kernel
theorem dL_act_167 : decode cL_act 167 = .ok (.istore 9, 2) := by decide +kernel
theorem dL_act_169 : decode cL_act 169 = .ok (.iload 9, 2) := by decide +kernel
theorem dL_act_171 : decode cL_act 171 = .ok (.iload 8, 2) := by decide +kernel
theorem dL_act_173 : decode cL_act 173 = .ok (.if_icmp .ge 31, 3) := by decide +kernel
theorem dL_act_176 : decode cL_act 176 = .ok (.aload 7, 2) := by decide +kernel
theorem dL_act_178 : decode cL_act 178 = .ok (.iload 9, 2) := by decide +kernel
theorem dL_act_180 : decode cL_act 180 = .ok (.aaload, 1) := by decide +kernel
theorem dL_act_181 : decode cL_act 181 = .ok (.astore 10, 2) := by decide +kernel
theorem dL_act_183 : decode cL_act 183 = .ok (.aload 10, 2) := by decide +kernel
theorem dL_act_185 : decode cL_act 185 = .ok (.getfield 98, 3) := by decide +kernel
theorem dL_act_188 : decode cL_act 188 = .ok (.iload_n 3, 1) := by decide +kernel
theorem dL_act_189 : decode cL_act 189 = .ok (.if_icmp .ne 9, 3) := by decide +kernel
theorem dL_act_192 : decode cL_act 192 = .ok (.aload 10, 2) := by decide +kernel
theorem dL_act_194 : decode cL_act 194 = .ok (.iconst (-1), 1) := by decide +kernel
theorem dL_act_195 : decode cL_act 195 = .ok (.putfield 98, 3) := by decide +kernel
theorem dL_act_198 : decode cL_act 198 = .ok (.iinc 9 1, 3) := by decide +kernel
theorem dL_act_201 : decode cL_act 201 = .ok (.goto (-32), 3) := by decide +kernel
theorem dL_act_204 : decode cL_act 204 = .ok (.aload_n 0, 1) := by decide +kernel
theorem dL_act_205 : decode cL_act 205 = .ok (.iload_n 3, 1) := by decide +kernel
theorem dL_act_206 : decode cL_act 206 = .ok (.iload 5, 2) := by decide +kernel
theorem dL_act_208 : decode cL_act 208 = .ok (.bipush 14, 2) := by decide +kernel
theorem dL_act_210 : decode cL_act 210 = .ok (.irem, 1) := by decide +kernel
theorem dL_act_211 : decode cL_act 211 = .ok (.iload 5, 2) := by decide +kernel
theorem dL_act_213 : decode cL_act 213 = .ok (.bipush 14, 2) := by decide +kernel
theorem dL_act_215 : decode cL_act 215 = .ok (.idiv, 1) := by decide +kernel
theorem dL_act_216 : decode cL_act 216 = .ok (.invokevirtual 101, 3) := by decide +kernel
theorem dL_act_219 : decode cL_act 219 = .ok (.aload 4, 2) := by decide +kernel
theorem dL_act_221 : decode cL_act 221 = .ok (.getfield 82, 3) := by decide +kernel
theorem dL_act_224 : decode cL_act 224 = .ok (.if_icmp .ne 7, 3) := by decide +kernel
theorem dL_act_227 : decode cL_act 227 = .ok (.iconst 1, 1) := by decide +kernel
theorem dL_act_228 : decode cL_act 228 = .ok (.goto 4, 3) := by decide +kernel
theorem dL_act_231 : decode cL_act 231 = .ok (.iconst 0, 1) := by decide +kernel
theorem dL_act_232 : decode cL_act 232 = .ok (.ireturn, 1) := by decide +kernel
theorem dL_act_233 : decode cL_act 233 = .ok (.iload_n 2, 1) := by decide +kernel
theorem dL_act_234 : decode cL_act 234 = .ok (.iconst 3, 1) := by decide +kernel
theorem dL_act_235 : decode cL_act 235 = .ok (.ishr, 1) := by decide +kernel
theorem dL_act_236 : decode cL_act 236 = .ok (.aload_n 1, 1) := by decide +kernel
theorem dL_act_237 : decode cL_act 237 = .ok (.getfield 56, 3) := by decide +kernel
theorem dL_act_240 : decode cL_act 240 = .ok (.arraylength, 1) := by decide +kernel
theorem dL_act_241 : decode cL_act 241 = .ok (.invokestatic 18, 3) := by decide +kernel
theorem dL_act_244 : decode cL_act 244 = .ok (.istore 7, 2) := by decide +kernel
theorem dL_act_246 : decode cL_act 246 = .ok (.aload 4, 2) := by decide +kernel
theorem dL_act_248 : decode cL_act 248 = .ok (.getfield 82, 3) := by decide +kernel
theorem dL_act_251 : decode cL_act 251 = .ok (.ifCond .gt 49, 3) := by decide +kernel
theorem dL_act_254 : decode cL_act 254 = .ok (.aload_n 1, 1) := by decide +kernel
theorem dL_act_255 : decode cL_act 255 = .ok (.getfield 56, 3) := by decide +kernel
theorem dL_act_258 : decode cL_act 258 = .ok (.iload 7, 2) := by decide +kernel
theorem dL_act_260 : decode cL_act 260 = .ok (.aaload, 1) := by decide +kernel
theorem dL_act_261 : decode cL_act 261 = .ok (.getfield 82, 3) := by decide +kernel
theorem dL_act_264 : decode cL_act 264 = .ok (.ifCond .gt 36, 3) := by decide +kernel
theorem dL_act_267 : decode cL_act 267 = .ok (.aload 4, 2) := by decide +kernel
theorem dL_act_269 : decode cL_act 269 = .ok (.getfield 87, 3) := by decide +kernel
theorem dL_act_272 : decode cL_act 272 = .ok (.aload_n 1, 1) := by decide +kernel
theorem dL_act_273 : decode cL_act 273 = .ok (.getfield 56, 3) := by decide +kernel
theorem dL_act_276 : decode cL_act 276 = .ok (.iload 7, 2) := by decide +kernel
theorem dL_act_278 : decode cL_act 278 = .ok (.aaload, 1) := by decide +kernel
theorem dL_act_279 : decode cL_act 279 = .ok (.getfield 87, 3) := by decide +kernel
theorem dL_act_282 : decode cL_act 282 = .ok (.invokestatic 104, 3) := by decide +kernel
theorem dL_act_285 : decode cL_act 285 = .ok (.bipush 6, 2) := by decide +kernel
theorem dL_act_287 : decode cL_act 287 = .ok (.if_icmp .gt 13, 3) := by decide +kernel
theorem dL_act_290 : decode cL_act 290 = .ok (.aload_n 1, 1) := by decide +kernel
theorem dL_act_291 : decode cL_act 291 = .ok (.iload 7, 2) := by decide +kernel
theorem dL_act_293 : decode cL_act 293 = .ok (.iload_n 3, 1) := by decide +kernel
theorem dL_act_294 : decode cL_act 294 = .ok (.invokevirtual 107, 3) := by decide +kernel
theorem dL_act_297 : decode cL_act 297 = .ok (.ifCond .eq 5, 3) := by decide +kernel
theorem dL_act_300 : decode cL_act 300 = .ok (.iconst 1, 1) := by decide +kernel
theorem dL_act_301 : decode cL_act 301 = .ok (.ireturn, 1) := by decide +kernel
theorem dL_act_302 : decode cL_act 302 = .ok (.aload 4, 2) := by decide +kernel
theorem dL_act_304 : decode cL_act 304 = .ok (.iload 7, 2) := by decide +kernel
theorem dL_act_306 : decode cL_act 306 = .ok (.putfield 98, 3) := by decide +kernel
theorem dL_act_309 : decode cL_act 309 = .ok (.aload_n 0, 1) := by decide +kernel
theorem dL_act_310 : decode cL_act 310 = .ok (.iload_n 3, 1) := by decide +kernel
theorem dL_act_311 : decode cL_act 311 = .ok (.iload 7, 2) := by decide +kernel
theorem dL_act_313 : decode cL_act 313 = .ok (.invokevirtual 111, 3) := by decide +kernel
theorem dL_act_316 : decode cL_act 316 = .ok (.aload 4, 2) := by decide +kernel
theorem dL_act_318 : decode cL_act 318 = .ok (.getfield 87, 3) := by decide +kernel
theorem dL_act_321 : decode cL_act 321 = .ok (.aload_n 1, 1) := by decide +kernel
theorem dL_act_322 : decode cL_act 322 = .ok (.getfield 56, 3) := by decide +kernel
theorem dL_act_325 : decode cL_act 325 = .ok (.iload 7, 2) := by decide +kernel
theorem dL_act_327 : decode cL_act 327 = .ok (.aaload, 1) := by decide +kernel
theorem dL_act_328 : decode cL_act 328 = .ok (.getfield 87, 3) := by decide +kernel
theorem dL_act_331 : decode cL_act 331 = .ok (.invokestatic 104, 3) := by decide +kernel
theorem dL_act_334 : decode cL_act 334 = .ok (.if_icmp .ne 7, 3) := by decide +kernel
theorem dL_act_337 : decode cL_act 337 = .ok (.iconst 1, 1) := by decide +kernel
theorem dL_act_338 : decode cL_act 338 = .ok (.goto 4, 3) := by decide +kernel
theorem dL_act_341 : decode cL_act 341 = .ok (.iconst 0, 1) := by decide +kernel
theorem dL_act_342 : decode cL_act 342 = .ok (.ireturn, 1) := by decide +kernel
theorem dL_act_343 : decode cL_act 343 = .ok (.iload_n 2, 1) := by decide +kernel
theorem dL_act_344 : decode cL_act 344 = .ok (.iconst 2, 1) := by decide +kernel
theorem dL_act_345 : decode cL_act 345 = .ok (.ishr, 1) := by decide +kernel
theorem dL_act_346 : decode cL_act 346 = .ok (.aload_n 1, 1) := by decide +kernel
theorem dL_act_347 : decode cL_act 347 = .ok (.getfield 32, 3) := by decide +kernel
theorem dL_act_350 : decode cL_act 350 = .ok (.arraylength, 1) := by decide +kernel
theorem dL_act_351 : decode cL_act 351 = .ok (.invokestatic 18, 3) := by decide +kernel
theorem dL_act_354 : decode cL_act 354 = .ok (.istore 8, 2) := by decide +kernel
theorem dL_act_356 : decode cL_act 356 = .ok (.aload 4, 2) := by decide +kernel
theorem dL_act_358 : decode cL_act 358 = .ok (.getfield 82, 3) := by decide +kernel
theorem dL_act_361 : decode cL_act 361 = .ok (.ifCond .gt 26, 3) := by decide +kernel
theorem dL_act_364 : decode cL_act 364 = .ok (.aload 4, 2) := by decide +kernel
theorem dL_act_366 : decode cL_act 366 = .ok (.getfield 87, 3) := by decide +kernel
theorem dL_act_369 : decode cL_act 369 = .ok (.aload_n 1, 1) := by decide +kernel
theorem dL_act_370 : decode cL_act 370 = .ok (.getfield 32, 3) := by decide +kernel
theorem dL_act_373 : decode cL_act 373 = .ok (.iload 8, 2) := by decide +kernel
theorem dL_act_375 : decode cL_act 375 = .ok (.aaload, 1) := by decide +kernel
theorem dL_act_376 : decode cL_act 376 = .ok (.getfield 114, 3) := by decide +kernel
theorem dL_act_379 : decode cL_act 379 = .ok (.invokestatic 104, 3) := by decide +kernel
theorem dL_act_382 : decode cL_act 382 = .ok (.bipush 6, 2) := by decide +kernel
theorem dL_act_384 : decode cL_act 384 = .ok (.if_icmp .le 5, 3) := by decide +kernel
theorem dL_act_387 : decode cL_act 387 = .ok (.iconst 1, 1) := by decide +kernel
theorem dL_act_388 : decode cL_act 388 = .ok (.ireturn, 1) := by decide +kernel
theorem dL_act_389 : decode cL_act 389 = .ok (.aload 4, 2) := by decide +kernel
theorem dL_act_391 : decode cL_act 391 = .ok (.bipush 100, 2) := by decide +kernel
theorem dL_act_393 : decode cL_act 393 = .ok (.iload 8, 2) := by decide +kernel
theorem dL_act_395 : decode cL_act 395 = .ok (.iadd, 1) := by decide +kernel
theorem dL_act_396 : decode cL_act 396 = .ok (.putfield 98, 3) := by decide +kernel
theorem dL_act_399 : decode cL_act 399 = .ok (.aload_n 0, 1) := by decide +kernel
theorem dL_act_400 : decode cL_act 400 = .ok (.iload_n 3, 1) := by decide +kernel
theorem dL_act_401 : decode cL_act 401 = .ok (.iload 8, 2) := by decide +kernel
theorem dL_act_403 : decode cL_act 403 = .ok (.invokevirtual 115, 3) := by decide +kernel
theorem dL_act_406 : decode cL_act 406 = .ok (.aload 4, 2) := by decide +kernel
theorem dL_act_408 : decode cL_act 408 = .ok (.getfield 87, 3) := by decide +kernel
theorem dL_act_411 : decode cL_act 411 = .ok (.aload_n 1, 1) := by decide +kernel
theorem dL_act_412 : decode cL_act 412 = .ok (.getfield 32, 3) := by decide +kernel
theorem dL_act_415 : decode cL_act 415 = .ok (.iload 8, 2) := by decide +kernel
theorem dL_act_417 : decode cL_act 417 = .ok (.aaload, 1) := by decide +kernel
theorem dL_act_418 : decode cL_act 418 = .ok (.getfield 114, 3) := by decide +kernel
theorem dL_act_421 : decode cL_act 421 = .ok (.invokestatic 104, 3) := by decide +kernel
theorem dL_act_424 : decode cL_act 424 = .ok (.if_icmp .ne 7, 3) := by decide +kernel
theorem dL_act_427 : decode cL_act 427 = .ok (.iconst 1, 1) := by decide +kernel
theorem dL_act_428 : decode cL_act 428 = .ok (.goto 4, 3) := by decide +kernel
theorem dL_act_431 : decode cL_act 431 = .ok (.iconst 0, 1) := by decide +kernel
theorem dL_act_432 : decode cL_act 432 = .ok (.ireturn, 1) := by decide +kernel
theorem dL_act_433 : decode cL_act 433 = .ok (.iconst 1, 1) := by decide +kernel
theorem dL_act_434 : decode cL_act 434 = .ok (.iload_n 2, 1) := by decide +kernel
theorem dL_act_435 : decode cL_act 435 = .ok (.iconst 3, 1) := by decide +kernel
theorem dL_act_436 : decode cL_act 436 = .ok (.ishr, 1) := by decide +kernel
theorem dL_act_437 : decode cL_act 437 = .ok (.bipush 100, 2) := by decide +kernel
theorem dL_act_439 : decode cL_act 439 = .ok (.invokestatic 18, 3) := by decide +kernel
theorem dL_act_442 : decode cL_act 442 = .ok (.iadd, 1) := by decide +kernel
theorem dL_act_443 : decode cL_act 443 = .ok (.istore 9, 2) := by decide +kernel
theorem dL_act_445 : decode cL_act 445 = .ok (.aload 4, 2) := by decide +kernel
theorem dL_act_447 : decode cL_act 447 = .ok (.getfield 118, 3) := by decide +kernel
theorem dL_act_450 : decode cL_act 450 = .ok (.iload 9, 2) := by decide +kernel
theorem dL_act_452 : decode cL_act 452 = .ok (.iadd, 1) := by decide +kernel
theorem dL_act_453 : decode cL_act 453 = .ok (.sipush 200, 3) := by decide +kernel
theorem dL_act_456 : decode cL_act 456 = .ok (.if_icmp .le 12, 3) := by decide +kernel
theorem dL_act_459 : decode cL_act 459 = .ok (.aload_n 0, 1) := by decide +kernel
theorem dL_act_460 : decode cL_act 460 = .ok (.aload_n 1, 1) := by decide +kernel
theorem dL_act_461 : decode cL_act 461 = .ok (.iload_n 2, 1) := by decide +kernel
theorem dL_act_462 : decode cL_act 462 = .ok (.iconst 4, 1) := by decide +kernel
theorem dL_act_463 : decode cL_act 463 = .ok (.ishr, 1) := by decide +kernel
theorem dL_act_464 : decode cL_act 464 = .ok (.invokestatic 63, 3) := by decide +kernel
theorem dL_act_467 : decode cL_act 467 = .ok (.ireturn, 1) := by decide +kernel
theorem dL_act_468 : decode cL_act 468 = .ok (.aload 4, 2) := by decide +kernel
theorem dL_act_470 : decode cL_act 470 = .ok (.dup, 1) := by decide +kernel
theorem dL_act_471 : decode cL_act 471 = .ok (.getfield 118, 3) := by decide +kernel
theorem dL_act_474 : decode cL_act 474 = .ok (.iload 9, 2) := by decide +kernel
theorem dL_act_476 : decode cL_act 476 = .ok (.iadd, 1) := by decide +kernel
theorem dL_act_477 : decode cL_act 477 = .ok (.putfield 118, 3) := by decide +kernel
theorem dL_act_480 : decode cL_act 480 = .ok (.aload_n 0, 1) := by decide +kernel
theorem dL_act_481 : decode cL_act 481 = .ok (.iload_n 3, 1) := by decide +kernel
theorem dL_act_482 : decode cL_act 482 = .ok (.iload 9, 2) := by decide +kernel
theorem dL_act_484 : decode cL_act 484 = .ok (.invokevirtual 121, 3) := by decide +kernel
theorem dL_act_487 : decode cL_act 487 = .ok (.aload 4, 2) := by decide +kernel
theorem dL_act_489 : decode cL_act 489 = .ok (.getfield 118, 3) := by decide +kernel
theorem dL_act_492 : decode cL_act 492 = .ok (.if_icmp .ne 7, 3) := by decide +kernel
theorem dL_act_495 : decode cL_act 495 = .ok (.iconst 1, 1) := by decide +kernel
theorem dL_act_496 : decode cL_act 496 = .ok (.goto 4, 3) := by decide +kernel
theorem dL_act_499 : decode cL_act 499 = .ok (.iconst 0, 1) := by decide +kernel
theorem dL_act_500 : decode cL_act 500 = .ok (.ireturn, 1) := by decide +kernel
theorem dL_act_501 : decode cL_act 501 = .ok (.iload_n 2, 1) := by decide +kernel
theorem dL_act_502 : decode cL_act 502 = .ok (.iconst 4, 1) := by decide +kernel
theorem dL_act_503 : decode cL_act 503 = .ok (.ishr, 1) := by decide +kernel
theorem dL_act_504 : decode cL_act 504 = .ok (.iconst 3, 1) := by decide +kernel
theorem dL_act_505 : decode cL_act 505 = .ok (.invokestatic 18, 3) := by decide +kernel
theorem dL_act_508 : decode cL_act 508 = .ok (.ifCond .le 12, 3) := by decide +kernel
theorem dL_act_511 : decode cL_act 511 = .ok (.aload_n 0, 1) := by decide +kernel
theorem dL_act_512 : decode cL_act 512 = .ok (.aload_n 1, 1) := by decide +kernel
theorem dL_act_513 : decode cL_act 513 = .ok (.iload_n 2, 1) := by decide +kernel
theorem dL_act_514 : decode cL_act 514 = .ok (.iconst 3, 1) := by decide +kernel
theorem dL_act_515 : decode cL_act 515 = .ok (.ishr, 1) := by decide +kernel
theorem dL_act_516 : decode cL_act 516 = .ok (.invokestatic 63, 3) := by decide +kernel
theorem dL_act_519 : decode cL_act 519 = .ok (.ireturn, 1) := by decide +kernel
theorem dL_act_520 : decode cL_act 520 = .ok (.aload 4, 2) := by decide +kernel
theorem dL_act_522 : decode cL_act 522 = .ok (.getfield 98, 3) := by decide +kernel
theorem dL_act_525 : decode cL_act 525 = .ok (.ifCond .lt 7, 3) := by decide +kernel
theorem dL_act_528 : decode cL_act 528 = .ok (.iconst 1, 1) := by decide +kernel
theorem dL_act_529 : decode cL_act 529 = .ok (.goto 4, 3) := by decide +kernel
theorem dL_act_532 : decode cL_act 532 = .ok (.iconst 0, 1) := by decide +kernel
theorem dL_act_533 : decode cL_act 533 = .ok (.istore 10, 2) := by decide +kernel
theorem dL_act_535 : decode cL_act 535 = .ok (.aload 4, 2) := by decide +kernel
theorem dL_act_537 : decode cL_act 537 = .ok (.iconst (-1), 1) := by decide +kernel
theorem dL_act_538 : decode cL_act 538 = .ok (.putfield 98, 3) := by decide +kernel
theorem dL_act_541 : decode cL_act 541 = .ok (.aload_n 0, 1) := by decide +kernel
theorem dL_act_542 : decode cL_act 542 = .ok (.iload_n 3, 1) := by decide +kernel
theorem dL_act_543 : decode cL_act 543 = .ok (.invokevirtual 124, 3) := by decide +kernel
theorem dL_act_546 : decode cL_act 546 = .ok (.iload 10, 2) := by decide +kernel
theorem dL_act_548 : decode cL_act 548 = .ok (.if_icmp .ne 7, 3) := by decide +kernel
theorem dL_act_551 : decode cL_act 551 = .ok (.iconst 1, 1) := by decide +kernel
theorem dL_act_552 : decode cL_act 552 = .ok (.goto 4, 3) := by decide +kernel
theorem dL_act_555 : decode cL_act 555 = .ok (.iconst 0, 1) := by decide +kernel
theorem dL_act_556 : decode cL_act 556 = .ok (.ireturn, 1) := by decide +kernel
theorem dL_law_0 : decode cL_law 0 = .ok (.new 27, 3) := by decide +kernel
theorem dL_law_3 : decode cL_law 3 = .ok (.dup, 1) := by decide +kernel
theorem dL_law_4 : decode cL_law 4 = .ok (.invokespecial 127, 3) := by decide +kernel
theorem dL_law_7 : decode cL_law 7 = .ok (.astore_n 1, 1) := by decide +kernel
theorem dL_law_8 : decode cL_law 8 = .ok (.aload_n 1, 1) := by decide +kernel
theorem dL_law_9 : decode cL_law 9 = .ok (.aload_n 0, 1) := by decide +kernel
theorem dL_law_10 : decode cL_law 10 = .ok (.invokestatic 128, 3) := by decide +kernel
theorem dL_law_13 : decode cL_law 13 = .ok (.astore_n 2, 1) := by decide +kernel
theorem dL_law_14 : decode cL_law 14 = .ok (.aload_n 2, 1) := by decide +kernel
theorem dL_law_15 : decode cL_law 15 = .ok (.ifnonnull 5, 3) := by decide +kernel
theorem dL_law_18 : decode cL_law 18 = .ok (.iconst 0, 1) := by decide +kernel
theorem dL_law_19 : decode cL_law 19 = .ok (.ireturn, 1) := by decide +kernel
theorem dL_law_20 : decode cL_law 20 = .ok (.aload_n 2, 1) := by decide +kernel
theorem dL_law_21 : decode cL_law 21 = .ok (.getfield 32, 3) := by decide +kernel
theorem dL_law_24 : decode cL_law 24 = .ok (.arraylength, 1) := by decide +kernel
theorem dL_law_25 : decode cL_law 25 = .ok (.istore_n 3, 1) := by decide +kernel
theorem dL_law_26 : decode cL_law 26 = .ok (.aload_n 2, 1) := by decide +kernel
theorem dL_law_27 : decode cL_law 27 = .ok (.getfield 56, 3) := by decide +kernel
theorem dL_law_30 : decode cL_law 30 = .ok (.arraylength, 1) := by decide +kernel
theorem dL_law_31 : decode cL_law 31 = .ok (.istore 4, 2) := by decide +kernel
theorem dL_law_33 : decode cL_law 33 = .ok (.aload_n 2, 1) := by decide +kernel
theorem dL_law_34 : decode cL_law 34 = .ok (.getfield 43, 3) := by decide +kernel
theorem dL_law_37 : decode cL_law 37 = .ok (.arraylength, 1) := by decide +kernel
theorem dL_law_38 : decode cL_law 38 = .ok (.istore 5, 2) := by decide +kernel
theorem dL_law_40 : decode cL_law 40 = .ok (.iconst 0, 1) := by decide +kernel
theorem dL_law_41 : decode cL_law 41 = .ok (.istore 6, 2) := by decide +kernel
theorem dL_law_43 : decode cL_law 43 = .ok (.iload 6, 2) := by decide +kernel
theorem dL_law_45 : decode cL_law 45 = .ok (.bipush 40, 2) := by decide +kernel
theorem dL_law_47 : decode cL_law 47 = .ok (.if_icmp .ge 1239, 3) := by decide +kernel
theorem dL_law_50 : decode cL_law 50 = .ok (.aload_n 0, 1) := by decide +kernel
theorem dL_law_51 : decode cL_law 51 = .ok (.iload 6, 2) := by decide +kernel
theorem dL_law_53 : decode cL_law 53 = .ok (.bipush 16, 2) := by decide +kernel
theorem dL_law_55 : decode cL_law 55 = .ok (.irem, 1) := by decide +kernel
theorem dL_law_56 : decode cL_law 56 = .ok (.invokestatic 12, 3) := by decide +kernel
theorem dL_law_59 : decode cL_law 59 = .ok (.iload 6, 2) := by decide +kernel
theorem dL_law_61 : decode cL_law 61 = .ok (.bipush 16, 2) := by decide +kernel
theorem dL_law_63 : decode cL_law 63 = .ok (.idiv, 1) := by decide +kernel
theorem dL_law_64 : decode cL_law 64 = .ok (.iconst 3, 1) := by decide +kernel
theorem dL_law_65 : decode cL_law 65 = .ok (.imul, 1) := by decide +kernel
theorem dL_law_66 : decode cL_law 66 = .ok (.ishr, 1) := by decide +kernel
theorem dL_law_67 : decode cL_law 67 = .ok (.bipush 37, 2) := by decide +kernel
theorem dL_law_69 : decode cL_law 69 = .ok (.iload 6, 2) := by decide +kernel
theorem dL_law_71 : decode cL_law 71 = .ok (.imul, 1) := by decide +kernel
theorem dL_law_72 : decode cL_law 72 = .ok (.iadd, 1) := by decide +kernel
theorem dL_law_73 : decode cL_law 73 = .ok (.istore 7, 2) := by decide +kernel
theorem dL_law_75 : decode cL_law 75 = .ok (.iconst 0, 1) := by decide +kernel
theorem dL_law_76 : decode cL_law 76 = .ok (.istore 8, 2) := by decide +kernel
theorem dL_law_78 : decode cL_law 78 = .ok (.iload 8, 2) := by decide +kernel
theorem dL_law_80 : decode cL_law 80 = .ok (.iconst 2, 1) := by decide +kernel
theorem dL_law_81 : decode cL_law 81 = .ok (.if_icmp .ge 31, 3) := by decide +kernel
theorem dL_law_84 : decode cL_law 84 = .ok (.aload_n 1, 1) := by decide +kernel
theorem dL_law_85 : decode cL_law 85 = .ok (.aload_n 2, 1) := by decide +kernel
theorem dL_law_86 : decode cL_law 86 = .ok (.iload 7, 2) := by decide +kernel
theorem dL_law_88 : decode cL_law 88 = .ok (.iconst 2, 1) := by decide +kernel
theorem dL_law_89 : decode cL_law 89 = .ok (.iload 8, 2) := by decide +kernel
theorem dL_law_91 : decode cL_law 91 = .ok (.imul, 1) := by decide +kernel
theorem dL_law_92 : decode cL_law 92 = .ok (.ishr, 1) := by decide +kernel
theorem dL_law_93 : decode cL_law 93 = .ok (.iconst 5, 1) := by decide +kernel
theorem dL_law_94 : decode cL_law 94 = .ok (.iload 8, 2) := by decide +kernel
theorem dL_law_96 : decode cL_law 96 = .ok (.imul, 1) := by decide +kernel
theorem dL_law_97 : decode cL_law 97 = .ok (.iadd, 1) := by decide +kernel
theorem dL_law_98 : decode cL_law 98 = .ok (.invokestatic 131, 3) := by decide +kernel
theorem dL_law_101 : decode cL_law 101 = .ok (.ifCond .ne 5, 3) := by decide +kernel
theorem dL_law_104 : decode cL_law 104 = .ok (.iconst 0, 1) := by decide +kernel
theorem dL_law_105 : decode cL_law 105 = .ok (.ireturn, 1) := by decide +kernel
theorem dL_law_106 : decode cL_law 106 = .ok (.iinc 8 1, 3) := by decide +kernel
theorem dL_law_109 : decode cL_law 109 = .ok (.goto (-31), 3) := by decide +kernel
theorem dL_law_112 : decode cL_law 112 = .ok (.iload_n 3, 1) := by decide +kernel
theorem dL_law_113 : decode cL_law 113 = .ok (.bipush 7, 2) := by decide +kernel
theorem dL_law_115 : decode cL_law 115 = .ok (.multianewarray 134 2, 4) := by decide +kernel
theorem dL_law_119 : decode cL_law 119 = .ok (.astore 8, 2) := by decide +kernel
theorem dL_law_121 : decode cL_law 121 = .ok (.iconst 0, 1) := by decide +kernel
theorem dL_law_122 : decode cL_law 122 = .ok (.istore 9, 2) := by decide +kernel
theorem dL_law_124 : decode cL_law 124 = .ok (.iload 9, 2) := by decide +kernel
theorem dL_law_126 : decode cL_law 126 = .ok (.iload_n 3, 1) := by decide +kernel
theorem dL_law_127 : decode cL_law 127 = .ok (.if_icmp .ge 41, 3) := by decide +kernel
theorem dL_law_130 : decode cL_law 130 = .ok (.iconst 0, 1) := by decide +kernel
theorem dL_law_131 : decode cL_law 131 = .ok (.istore 10, 2) := by decide +kernel
theorem dL_law_133 : decode cL_law 133 = .ok (.iload 10, 2) := by decide +kernel
theorem dL_law_135 : decode cL_law 135 = .ok (.bipush 7, 2) := by decide +kernel
theorem dL_law_137 : decode cL_law 137 = .ok (.if_icmp .ge 25, 3) := by decide +kernel
theorem dL_law_140 : decode cL_law 140 = .ok (.aload 8, 2) := by decide +kernel
theorem dL_law_142 : decode cL_law 142 = .ok (.iload 9, 2) := by decide +kernel
theorem dL_law_144 : decode cL_law 144 = .ok (.aaload, 1) := by decide +kernel
theorem dL_law_145 : decode cL_law 145 = .ok (.iload 10, 2) := by decide +kernel
theorem dL_law_147 : decode cL_law 147 = .ok (.aload_n 1, 1) := by decide +kernel
theorem dL_law_148 : decode cL_law 148 = .ok (.iload 9, 2) := by decide +kernel
theorem dL_law_150 : decode cL_law 150 = .ok (.iload 10, 2) := by decide +kernel
theorem dL_law_152 : decode cL_law 152 = .ok (.invokevirtual 135, 3) := by decide +kernel
theorem dL_law_155 : decode cL_law 155 = .ok (.iastore, 1) := by decide +kernel
theorem dL_law_156 : decode cL_law 156 = .ok (.iinc 10 1, 3) := by decide +kernel
theorem dL_law_159 : decode cL_law 159 = .ok (.goto (-26), 3) := by decide +kernel
theorem dL_law_162 : decode cL_law 162 = .ok (.iinc 9 1, 3) := by decide +kernel
theorem dL_law_165 : decode cL_law 165 = .ok (.goto (-41), 3) := by decide +kernel
theorem dL_law_168 : decode cL_law 168 = .ok (.iload 4, 2) := by decide +kernel
theorem dL_law_170 : decode cL_law 170 = .ok (.bipush 10, 2) := by decide +kernel
theorem dL_law_172 : decode cL_law 172 = .ok (.multianewarray 134 2, 4) := by decide +kernel
theorem dL_law_176 : decode cL_law 176 = .ok (.astore 9, 2) := by decide +kernel
theorem dL_law_178 : decode cL_law 178 = .ok (.iconst 0, 1) := by decide +kernel
theorem dL_law_179 : decode cL_law 179 = .ok (.istore 10, 2) := by decide +kernel
theorem dL_law_181 : decode cL_law 181 = .ok (.iload 10, 2) := by decide +kernel
theorem dL_law_183 : decode cL_law 183 = .ok (.iload 4, 2) := by decide +kernel
theorem dL_law_185 : decode cL_law 185 = .ok (.if_icmp .ge 41, 3) := by decide +kernel
theorem dL_law_188 : decode cL_law 188 = .ok (.iconst 0, 1) := by decide +kernel
theorem dL_law_189 : decode cL_law 189 = .ok (.istore 11, 2) := by decide +kernel
theorem dL_law_191 : decode cL_law 191 = .ok (.iload 11, 2) := by decide +kernel
theorem dL_law_193 : decode cL_law 193 = .ok (.bipush 10, 2) := by decide +kernel
theorem dL_law_195 : decode cL_law 195 = .ok (.if_icmp .ge 25, 3) := by decide +kernel
theorem dL_law_198 : decode cL_law 198 = .ok (.aload 9, 2) := by decide +kernel
theorem dL_law_200 : decode cL_law 200 = .ok (.iload 10, 2) := by decide +kernel
theorem dL_law_202 : decode cL_law 202 = .ok (.aaload, 1) := by decide +kernel
theorem dL_law_203 : decode cL_law 203 = .ok (.iload 11, 2) := by decide +kernel
theorem dL_law_205 : decode cL_law 205 = .ok (.aload_n 1, 1) := by decide +kernel
theorem dL_law_206 : decode cL_law 206 = .ok (.iload 10, 2) := by decide +kernel
theorem dL_law_208 : decode cL_law 208 = .ok (.iload 11, 2) := by decide +kernel
theorem dL_law_210 : decode cL_law 210 = .ok (.invokevirtual 138, 3) := by decide +kernel
theorem dL_law_213 : decode cL_law 213 = .ok (.iastore, 1) := by decide +kernel
theorem dL_law_214 : decode cL_law 214 = .ok (.iinc 11 1, 3) := by decide +kernel
theorem dL_law_217 : decode cL_law 217 = .ok (.goto (-26), 3) := by decide +kernel
theorem dL_law_220 : decode cL_law 220 = .ok (.iinc 10 1, 3) := by decide +kernel
theorem dL_law_223 : decode cL_law 223 = .ok (.goto (-42), 3) := by decide +kernel
theorem dL_law_226 : decode cL_law 226 = .ok (.iload 5, 2) := by decide +kernel
theorem dL_law_228 : decode cL_law 228 = .ok (.newarray .int, 2) := by decide +kernel
theorem dL_law_230 : decode cL_law 230 = .ok (.astore 10, 2) := by decide +kernel
theorem dL_law_232 : decode cL_law 232 = .ok (.iconst 0, 1) := by decide +kernel
theorem dL_law_233 : decode cL_law 233 = .ok (.istore 11, 2) := by decide +kernel
theorem dL_law_235 : decode cL_law 235 = .ok (.iload 11, 2) := by decide +kernel
theorem dL_law_237 : decode cL_law 237 = .ok (.iload 5, 2) := by decide +kernel
theorem dL_law_239 : decode cL_law 239 = .ok (.if_icmp .ge 20, 3) := by decide +kernel
theorem dL_law_242 : decode cL_law 242 = .ok (.aload 10, 2) := by decide +kernel
theorem dL_law_244 : decode cL_law 244 = .ok (.iload 11, 2) := by decide +kernel
theorem dL_law_246 : decode cL_law 246 = .ok (.aload_n 1, 1) := by decide +kernel
theorem dL_law_247 : decode cL_law 247 = .ok (.iload 11, 2) := by decide +kernel
theorem dL_law_249 : decode cL_law 249 = .ok (.invokevirtual 141, 3) := by decide +kernel
theorem dL_law_252 : decode cL_law 252 = .ok (.iastore, 1) := by decide +kernel
theorem dL_law_253 : decode cL_law 253 = .ok (.iinc 11 1, 3) := by decide +kernel
theorem dL_law_256 : decode cL_law 256 = .ok (.goto (-21), 3) := by decide +kernel
theorem dL_law_259 : decode cL_law 259 = .ok (.aload_n 1, 1) := by decide +kernel
theorem dL_law_260 : decode cL_law 260 = .ok (.iconst 1, 1) := by decide +kernel
theorem dL_law_261 : decode cL_law 261 = .ok (.iconst 0, 1) := by decide +kernel
theorem dL_law_262 : decode cL_law 262 = .ok (.invokevirtual 144, 3) := by decide +kernel
theorem dL_law_265 : decode cL_law 265 = .ok (.istore 11, 2) := by decide +kernel
theorem dL_law_267 : decode cL_law 267 = .ok (.aload_n 1, 1) := by decide +kernel
theorem dL_law_268 : decode cL_law 268 = .ok (.iconst 1, 1) := by decide +kernel
theorem dL_law_269 : decode cL_law 269 = .ok (.iconst 1, 1) := by decide +kernel
theorem dL_law_270 : decode cL_law 270 = .ok (.invokevirtual 144, 3) := by decide +kernel
theorem dL_law_273 : decode cL_law 273 = .ok (.istore 12, 2) := by decide +kernel
theorem dL_law_275 : decode cL_law 275 = .ok (.aload_n 1, 1) := by decide +kernel
theorem dL_law_276 : decode cL_law 276 = .ok (.iconst 1, 1) := by decide +kernel
theorem dL_law_277 : decode cL_law 277 = .ok (.iconst 2, 1) := by decide +kernel
theorem dL_law_278 : decode cL_law 278 = .ok (.invokevirtual 144, 3) := by decide +kernel
theorem dL_law_281 : decode cL_law 281 = .ok (.istore 13, 2) := by decide +kernel
theorem dL_law_283 : decode cL_law 283 = .ok (.aload_n 1, 1) := by decide +kernel
theorem dL_law_284 : decode cL_law 284 = .ok (.invokevirtual 147, 3) := by decide +kernel
theorem dL_law_287 : decode cL_law 287 = .ok (.istore 14, 2) := by decide +kernel
theorem dL_law_289 : decode cL_law 289 = .ok (.aload_n 1, 1) := by decide +kernel
theorem dL_law_290 : decode cL_law 290 = .ok (.iconst 1, 1) := by decide +kernel
theorem dL_law_291 : decode cL_law 291 = .ok (.invokevirtual 151, 3) := by decide +kernel
theorem dL_law_294 : decode cL_law 294 = .ok (.istore 15, 2) := by decide +kernel
theorem dL_law_296 : decode cL_law 296 = .ok (.aload_n 2, 1) := by decide +kernel
theorem dL_law_297 : decode cL_law 297 = .ok (.invokevirtual 154, 3) := by decide +kernel
theorem dL_law_300 : decode cL_law 300 = .ok (.pop, 1) := by decide +kernel
theorem dL_law_301 : decode cL_law 301 = .ok (.aload_n 1, 1) := by decide +kernel
theorem dL_law_302 : decode cL_law 302 = .ok (.iconst 2, 1) := by decide +kernel
theorem dL_law_303 : decode cL_law 303 = .ok (.invokevirtual 156, 3) := by decide +kernel
theorem dL_law_306 : decode cL_law 306 = .ok (.iload 11, 2) := by decide +kernel
theorem dL_law_308 : decode cL_law 308 = .ok (.if_icmp .ne 72, 3) := by decide +kernel
theorem dL_law_311 : decode cL_law 311 = .ok (.aload_n 1, 1) := by decide +kernel
theorem dL_law_312 : decode cL_law 312 = .ok (.iconst 4, 1) := by decide +kernel
theorem dL_law_313 : decode cL_law 313 = .ok (.invokevirtual 156, 3) := by decide +kernel
theorem dL_law_316 : decode cL_law 316 = .ok (.iload 12, 2) := by decide +kernel
theorem dL_law_318 : decode cL_law 318 = .ok (.if_icmp .ne 62, 3) := by decide +kernel
theorem dL_law_321 : decode cL_law 321 = .ok (.aload_n 1, 1) := by decide +kernel
theorem dL_law_322 : decode cL_law 322 = .ok (.bipush 8, 2) := by decide +kernel
theorem dL_law_324 : decode cL_law 324 = .ok (.invokevirtual 156, 3) := by decide +kernel
theorem dL_law_327 : decode cL_law 327 = .ok (.iload 13, 2) := by decide +kernel
theorem dL_law_329 : decode cL_law 329 = .ok (.if_icmp .ne 51, 3) := by decide +kernel
theorem dL_law_332 : decode cL_law 332 = .ok (.aload_n 1, 1) := by decide +kernel
theorem dL_law_333 : decode cL_law 333 = .ok (.iconst 0, 1) := by decide +kernel
theorem dL_law_334 : decode cL_law 334 = .ok (.invokevirtual 156, 3) := by decide +kernel
theorem dL_law_337 : decode cL_law 337 = .ok (.iload 6, 2) := by decide +kernel
theorem dL_law_339 : decode cL_law 339 = .ok (.iconst 1, 1) := by decide +kernel
theorem dL_law_340 : decode cL_law 340 = .ok (.iadd, 1) := by decide +kernel
theorem dL_law_341 : decode cL_law 341 = .ok (.if_icmp .ne 39, 3) := by decide +kernel
theorem dL_law_344 : decode cL_law 344 = .ok (.iload 14, 2) := by decide +kernel
theorem dL_law_346 : decode cL_law 346 = .ok (.iconst 1, 1) := by decide +kernel
theorem dL_law_347 : decode cL_law 347 = .ok (.if_icmp .le 22, 3) := by decide +kernel
theorem dL_law_350 : decode cL_law 350 = .ok (.aload_n 1, 1) := by decide +kernel
theorem dL_law_351 : decode cL_law 351 = .ok (.invokevirtual 147, 3) := by decide +kernel
theorem dL_law_354 : decode cL_law 354 = .ok (.iload 14, 2) := by decide +kernel
theorem dL_law_356 : decode cL_law 356 = .ok (.iconst 1, 1) := by decide +kernel
theorem dL_law_357 : decode cL_law 357 = .ok (.isub, 1) := by decide +kernel
theorem dL_law_358 : decode cL_law 358 = .ok (.if_icmp .eq 11, 3) := by decide +kernel
theorem dL_law_361 : decode cL_law 361 = .ok (.iload 14, 2) := by decide +kernel
theorem dL_law_363 : decode cL_law 363 = .ok (.sipush 200, 3) := by decide +kernel
theorem dL_law_366 : decode cL_law 366 = .ok (.if_icmp .lt 14, 3) := by decide +kernel
theorem dL_law_369 : decode cL_law 369 = .ok (.iload 14, 2) := by decide +kernel
theorem dL_law_371 : decode cL_law 371 = .ok (.iconst 1, 1) := by decide +kernel
theorem dL_law_372 : decode cL_law 372 = .ok (.if_icmp .ne 10, 3) := by decide +kernel
theorem dL_law_375 : decode cL_law 375 = .ok (.iload 11, 2) := by decide +kernel
theorem dL_law_377 : decode cL_law 377 = .ok (.ifCond .eq 5, 3) := by decide +kernel
theorem dL_law_380 : decode cL_law 380 = .ok (.iconst 0, 1) := by decide +kernel
theorem dL_law_381 : decode cL_law 381 = .ok (.ireturn, 1) := by decide +kernel
theorem dL_law_382 : decode cL_law 382 = .ok (.iconst 0, 1) := by decide +kernel
theorem dL_law_383 : decode cL_law 383 = .ok (.istore 16, 2) := by decide +kernel
theorem dL_law_385 : decode cL_law 385 = .ok (.iconst 0, 1) := by decide +kernel
theorem dL_law_386 : decode cL_law 386 = .ok (.istore 17, 2) := by decide +kernel
theorem dL_law_388 : decode cL_law 388 = .ok (.iconst 0, 1) := by decide +kernel
theorem dL_law_389 : decode cL_law 389 = .ok (.istore 18, 2) := by decide +kernel
theorem dL_law_391 : decode cL_law 391 = .ok (.iload 18, 2) := by decide +kernel
theorem dL_law_393 : decode cL_law 393 = .ok (.iload_n 3, 1) := by decide +kernel
theorem dL_law_394 : decode cL_law 394 = .ok (.if_icmp .ge 478, 3) := by decide +kernel
theorem dL_law_397 : decode cL_law 397 = .ok (.aload_n 1, 1) := by decide +kernel
theorem dL_law_398 : decode cL_law 398 = .ok (.iload 18, 2) := by decide +kernel
theorem dL_law_400 : decode cL_law 400 = .ok (.iconst 3, 1) := by decide +kernel
theorem dL_law_401 : decode cL_law 401 = .ok (.invokevirtual 135, 3) := by decide +kernel
theorem dL_law_404 : decode cL_law 404 = .ok (.istore 19, 2) := by decide +kernel
theorem dL_law_406 : decode cL_law 406 = .ok (.aload_n 1, 1) := by decide +kernel
theorem dL_law_407 : decode cL_law 407 = .ok (.iload 18, 2) := by decide +kernel
theorem dL_law_409 : decode cL_law 409 = .ok (.iconst 5, 1) := by decide +kernel
theorem dL_law_410 : decode cL_law 410 = .ok (.invokevirtual 135, 3) := by decide +kernel
theorem dL_law_413 : decode cL_law 413 = .ok (.istore 20, 2) := by decide +kernel
theorem dL_law_415 : decode cL_law 415 = .ok (.iload 17, 2) := by decide +kernel
theorem dL_law_417 : decode cL_law 417 = .ok (.iload 20, 2) := by decide +kernel
theorem dL_law_419 : decode cL_law 419 = .ok (.iadd, 1) := by decide +kernel
theorem dL_law_420 : decode cL_law 420 = .ok (.istore 17, 2) := by decide +kernel
theorem dL_law_422 : decode cL_law 422 = .ok (.aload_n 1, 1) := by decide +kernel
theorem dL_law_423 : decode cL_law 423 = .ok (.iload 18, 2) := by decide +kernel
theorem dL_law_425 : decode cL_law 425 = .ok (.iconst 0, 1) := by decide +kernel
theorem dL_law_426 : decode cL_law 426 = .ok (.invokevirtual 135, 3) := by decide +kernel
theorem dL_law_429 : decode cL_law 429 = .ok (.aload 8, 2) := by decide +kernel
theorem dL_law_431 : decode cL_law 431 = .ok (.iload 18, 2) := by decide +kernel
theorem dL_law_433 : decode cL_law 433 = .ok (.aaload, 1) := by decide +kernel
theorem dL_law_434 : decode cL_law 434 = .ok (.iconst 0, 1) := by decide +kernel
theorem dL_law_435 : decode cL_law 435 = .ok (.iaload, 1) := by decide +kernel
theorem dL_law_436 : decode cL_law 436 = .ok (.if_icmp .ne 47, 3) := by decide +kernel
theorem dL_law_439 : decode cL_law 439 = .ok (.aload_n 1, 1) := by decide +kernel
theorem dL_law_440 : decode cL_law 440 = .ok (.iload 18, 2) := by decide +kernel
theorem dL_law_442 : decode cL_law 442 = .ok (.iconst 1, 1) := by decide +kernel
theorem dL_law_443 : decode cL_law 443 = .ok (.invokevirtual 135, 3) := by decide +kernel
theorem dL_law_446 : decode cL_law 446 = .ok (.aload 8, 2) := by decide +kernel
theorem dL_law_448 : decode cL_law 448 = .ok (.iload 18, 2) := by decide +kernel
theorem dL_law_450 : decode cL_law 450 = .ok (.aaload, 1) := by decide +kernel
theorem dL_law_451 : decode cL_law 451 = .ok (.iconst 1, 1) := by decide +kernel
theorem dL_law_452 : decode cL_law 452 = .ok (.iaload, 1) := by decide +kernel
theorem dL_law_453 : decode cL_law 453 = .ok (.if_icmp .ne 30, 3) := by decide +kernel
theorem dL_law_456 : decode cL_law 456 = .ok (.aload_n 1, 1) := by decide +kernel
theorem dL_law_457 : decode cL_law 457 = .ok (.iload 18, 2) := by decide +kernel
theorem dL_law_459 : decode cL_law 459 = .ok (.bipush 6, 2) := by decide +kernel
theorem dL_law_461 : decode cL_law 461 = .ok (.invokevirtual 135, 3) := by decide +kernel
theorem dL_law_464 : decode cL_law 464 = .ok (.aload 8, 2) := by decide +kernel
theorem dL_law_466 : decode cL_law 466 = .ok (.iload 18, 2) := by decide +kernel
theorem dL_law_468 : decode cL_law 468 = .ok (.aaload, 1) := by decide +kernel
theorem dL_law_469 : decode cL_law 469 = .ok (.bipush 6, 2) := by decide +kernel
theorem dL_law_471 : decode cL_law 471 = .ok (.iaload, 1) := by decide +kernel
theorem dL_law_472 : decode cL_law 472 = .ok (.iload 20, 2) := by decide +kernel
theorem dL_law_474 : decode cL_law 474 = .ok (.iadd, 1) := by decide +kernel
theorem dL_law_475 : decode cL_law 475 = .ok (.if_icmp .ne 8, 3) := by decide +kernel
theorem dL_law_478 : decode cL_law 478 = .ok (.iload 20, 2) := by decide +kernel
theorem dL_law_480 : decode cL_law 480 = .ok (.ifCond .ge 5, 3) := by decide +kernel
theorem dL_law_483 : decode cL_law 483 = .ok (.iconst 0, 1) := by decide +kernel
theorem dL_law_484 : decode cL_law 484 = .ok (.ireturn, 1) := by decide +kernel
theorem dL_law_485 : decode cL_law 485 = .ok (.iload 19, 2) := by decide +kernel
theorem dL_law_487 : decode cL_law 487 = .ok (.iconst 3, 1) := by decide +kernel
theorem dL_law_488 : decode cL_law 488 = .ok (.if_icmp .ne 7, 3) := by decide +kernel
theorem dL_law_491 : decode cL_law 491 = .ok (.iconst 1, 1) := by decide +kernel
theorem dL_law_492 : decode cL_law 492 = .ok (.goto 4, 3) := by decide +kernel
theorem dL_law_495 : decode cL_law 495 = .ok (.iconst 0, 1) := by decide +kernel
theorem dL_law_496 : decode cL_law 496 = .ok (.aload_n 1, 1) := by decide +kernel
theorem dL_law_497 : decode cL_law 497 = .ok (.iload 18, 2) := by decide +kernel
theorem dL_law_499 : decode cL_law 499 = .ok (.iconst 2, 1) := by decide +kernel
theorem dL_law_500 : decode cL_law 500 = .ok (.invokevirtual 135, 3) := by decide +kernel
theorem dL_law_503 : decode cL_law 503 = .ok (.ifCond .ne 7, 3) := by decide +kernel
theorem dL_law_506 : decode cL_law 506 = .ok (.iconst 1, 1) := by decide +kernel
theorem dL_law_507 : decode cL_law 507 = .ok (.goto 4, 3) := by decide +kernel
theorem dL_law_510 : decode cL_law 510 = .ok (.iconst 0, 1) := by decide +kernel
theorem dL_law_511 : decode cL_law 511 = .ok (.if_icmp .ne 44, 3) := by decide +kernel
theorem dL_law_514 : decode cL_law 514 = .ok (.iload 19, 2) := by decide +kernel
theorem dL_law_516 : decode cL_law 516 = .ok (.iconst 1, 1) := by decide +kernel
theorem dL_law_517 : decode cL_law 517 = .ok (.if_icmp .ne 7, 3) := by decide +kernel
theorem dL_law_520 : decode cL_law 520 = .ok (.iconst 1, 1) := by decide +kernel
theorem dL_law_521 : decode cL_law 521 = .ok (.goto 4, 3) := by decide +kernel
theorem dL_law_524 : decode cL_law 524 = .ok (.iconst 0, 1) := by decide +kernel
theorem dL_law_525 : decode cL_law 525 = .ok (.aload_n 1, 1) := by decide +kernel
theorem dL_law_526 : decode cL_law 526 = .ok (.iload 18, 2) := by decide +kernel
theorem dL_law_528 : decode cL_law 528 = .ok (.iconst 4, 1) := by decide +kernel
theorem dL_law_529 : decode cL_law 529 = .ok (.invokevirtual 135, 3) := by decide +kernel
theorem dL_law_532 : decode cL_law 532 = .ok (.ifCond .le 7, 3) := by decide +kernel
theorem dL_law_535 : decode cL_law 535 = .ok (.iconst 1, 1) := by decide +kernel
theorem dL_law_536 : decode cL_law 536 = .ok (.goto 4, 3) := by decide +kernel
theorem dL_law_539 : decode cL_law 539 = .ok (.iconst 0, 1) := by decide +kernel
theorem dL_law_540 : decode cL_law 540 = .ok (.if_icmp .ne 15, 3) := by decide +kernel
theorem dL_law_543 : decode cL_law 543 = .ok (.aload_n 1, 1) := by decide +kernel
theorem dL_law_544 : decode cL_law 544 = .ok (.iload 18, 2) := by decide +kernel
theorem dL_law_546 : decode cL_law 546 = .ok (.iconst 4, 1) := by decide +kernel
theorem dL_law_547 : decode cL_law 547 = .ok (.invokevirtual 135, 3) := by decide +kernel
theorem dL_law_550 : decode cL_law 550 = .ok (.bipush 99, 2) := by decide +kernel
theorem dL_law_552 : decode cL_law 552 = .ok (.if_icmp .le 5, 3) := by decide +kernel
theorem dL_law_555 : decode cL_law 555 = .ok (.iconst 0, 1) := by decide +kernel
theorem dL_law_556 : decode cL_law 556 = .ok (.ireturn, 1) := by decide +kernel
theorem dL_law_557 : decode cL_law 557 = .ok (.aload 8, 2) := by decide +kernel
theorem dL_law_559 : decode cL_law 559 = .ok (.iload 18, 2) := by decide +kernel
theorem dL_law_561 : decode cL_law 561 = .ok (.aaload, 1) := by decide +kernel
theorem dL_law_562 : decode cL_law 562 = .ok (.iconst 3, 1) := by decide +kernel
theorem dL_law_563 : decode cL_law 563 = .ok (.iaload, 1) := by decide +kernel
theorem dL_law_564 : decode cL_law 564 = .ok (.iconst 1, 1) := by decide +kernel
theorem dL_law_565 : decode cL_law 565 = .ok (.if_icmp .le 34, 3) := by decide +kernel
theorem dL_law_568 : decode cL_law 568 = .ok (.iload 19, 2) := by decide +kernel
theorem dL_law_570 : decode cL_law 570 = .ok (.aload 8, 2) := by decide +kernel
theorem dL_law_572 : decode cL_law 572 = .ok (.iload 18, 2) := by decide +kernel
theorem dL_law_574 : decode cL_law 574 = .ok (.aaload, 1) := by decide +kernel
theorem dL_law_575 : decode cL_law 575 = .ok (.iconst 3, 1) := by decide +kernel
theorem dL_law_576 : decode cL_law 576 = .ok (.iaload, 1) := by decide +kernel
theorem dL_law_577 : decode cL_law 577 = .ok (.if_icmp .ne 20, 3) := by decide +kernel
theorem dL_law_580 : decode cL_law 580 = .ok (.aload_n 1, 1) := by decide +kernel
theorem dL_law_581 : decode cL_law 581 = .ok (.iload 18, 2) := by decide +kernel
theorem dL_law_583 : decode cL_law 583 = .ok (.iconst 2, 1) := by decide +kernel
theorem dL_law_584 : decode cL_law 584 = .ok (.invokevirtual 135, 3) := by decide +kernel
theorem dL_law_587 : decode cL_law 587 = .ok (.aload 8, 2) := by decide +kernel
theorem dL_law_589 : decode cL_law 589 = .ok (.iload 18, 2) := by decide +kernel
theorem dL_law_591 : decode cL_law 591 = .ok (.aaload, 1) := by decide +kernel
theorem dL_law_592 : decode cL_law 592 = .ok (.iconst 2, 1) := by decide +kernel
theorem dL_law_593 : decode cL_law 593 = .ok (.iaload, 1) := by decide +kernel
theorem dL_law_594 : decode cL_law 594 = .ok (.if_icmp .eq 5, 3) := by decide +kernel
theorem dL_law_597 : decode cL_law 597 = .ok (.iconst 0, 1) := by decide +kernel
theorem dL_law_598 : decode cL_law 598 = .ok (.ireturn, 1) := by decide +kernel
theorem dL_law_599 : decode cL_law 599 = .ok (.aload 8, 2) := by decide +kernel
theorem dL_law_601 : decode cL_law 601 = .ok (.iload 18, 2) := by decide +kernel
theorem dL_law_603 : decode cL_law 603 = .ok (.aaload, 1) := by decide +kernel
theorem dL_law_604 : decode cL_law 604 = .ok (.iconst 3, 1) := by decide +kernel
theorem dL_law_605 : decode cL_law 605 = .ok (.iaload, 1) := by decide +kernel
theorem dL_law_606 : decode cL_law 606 = .ok (.ifCond .ne 127, 3) := by decide +kernel
theorem dL_law_609 : decode cL_law 609 = .ok (.iconst 0, 1) := by decide +kernel
theorem dL_law_610 : decode cL_law 610 = .ok (.istore 21, 2) := by decide +kernel
theorem dL_law_612 : decode cL_law 612 = .ok (.iconst 0, 1) := by decide +kernel
theorem dL_law_613 : decode cL_law 613 = .ok (.istore 22, 2) := by decide +kernel
theorem dL_law_615 : decode cL_law 615 = .ok (.iload 22, 2) := by decide +kernel
theorem dL_law_617 : decode cL_law 617 = .ok (.iload_n 3, 1) := by decide +kernel
theorem dL_law_618 : decode cL_law 618 = .ok (.if_icmp .ge 52, 3) := by decide +kernel
theorem dL_law_621 : decode cL_law 621 = .ok (.aload 8, 2) := by decide +kernel
theorem dL_law_623 : decode cL_law 623 = .ok (.iload 22, 2) := by decide +kernel
theorem dL_law_625 : decode cL_law 625 = .ok (.aaload, 1) := by decide +kernel
theorem dL_law_626 : decode cL_law 626 = .ok (.iconst 3, 1) := by decide +kernel
theorem dL_law_627 : decode cL_law 627 = .ok (.iaload, 1) := by decide +kernel
theorem dL_law_628 : decode cL_law 628 = .ok (.iconst 1, 1) := by decide +kernel
theorem dL_law_629 : decode cL_law 629 = .ok (.if_icmp .ne 35, 3) := by decide +kernel
theorem dL_law_632 : decode cL_law 632 = .ok (.aload 8, 2) := by decide +kernel
theorem dL_law_634 : decode cL_law 634 = .ok (.iload 22, 2) := by decide +kernel
theorem dL_law_636 : decode cL_law 636 = .ok (.aaload, 1) := by decide +kernel
theorem dL_law_637 : decode cL_law 637 = .ok (.iconst 0, 1) := by decide +kernel
theorem dL_law_638 : decode cL_law 638 = .ok (.iaload, 1) := by decide +kernel
theorem dL_law_639 : decode cL_law 639 = .ok (.aload 8, 2) := by decide +kernel
theorem dL_law_641 : decode cL_law 641 = .ok (.iload 18, 2) := by decide +kernel
theorem dL_law_643 : decode cL_law 643 = .ok (.aaload, 1) := by decide +kernel
theorem dL_law_644 : decode cL_law 644 = .ok (.iconst 0, 1) := by decide +kernel
theorem dL_law_645 : decode cL_law 645 = .ok (.iaload, 1) := by decide +kernel
theorem dL_law_646 : decode cL_law 646 = .ok (.invokestatic 159, 3) := by decide +kernel
theorem dL_law_649 : decode cL_law 649 = .ok (.ifCond .eq 15, 3) := by decide +kernel
theorem dL_law_652 : decode cL_law 652 = .ok (.iload 21, 2) := by decide +kernel
theorem dL_law_654 : decode cL_law 654 = .ok (.aload_n 1, 1) := by decide +kernel
theorem dL_law_655 : decode cL_law 655 = .ok (.iload 22, 2) := by decide +kernel
theorem dL_law_657 : decode cL_law 657 = .ok (.iconst 4, 1) := by decide +kernel
theorem dL_law_658 : decode cL_law 658 = .ok (.invokevirtual 135, 3) := by decide +kernel
theorem dL_law_661 : decode cL_law 661 = .ok (.iadd, 1) := by decide +kernel
theorem dL_law_662 : decode cL_law 662 = .ok (.istore 21, 2) := by decide +kernel
theorem dL_law_664 : decode cL_law 664 = .ok (.iinc 22 1, 3) := by decide +kernel
theorem dL_law_667 : decode cL_law 667 = .ok (.goto (-52), 3) := by decide +kernel
theorem dL_law_670 : decode cL_law 670 = .ok (.iload 19, 2) := by decide +kernel
theorem dL_law_672 : decode cL_law 672 = .ok (.iload 21, 2) := by decide +kernel
theorem dL_law_674 : decode cL_law 674 = .ok (.iload 20, 2) := by decide +kernel
theorem dL_law_676 : decode cL_law 676 = .ok (.isub, 1) := by decide +kernel
theorem dL_law_677 : decode cL_law 677 = .ok (.bipush 40, 2) := by decide +kernel
theorem dL_law_679 : decode cL_law 679 = .ok (.if_icmp .lt 7, 3) := by decide +kernel
theorem dL_law_682 : decode cL_law 682 = .ok (.iconst 1, 1) := by decide +kernel
theorem dL_law_683 : decode cL_law 683 = .ok (.goto 4, 3) := by decide +kernel
theorem dL_law_686 : decode cL_law 686 = .ok (.iconst 0, 1) := by decide +kernel
theorem dL_law_687 : decode cL_law 687 = .ok (.if_icmp .ne 37, 3) := by decide +kernel
theorem dL_law_690 : decode cL_law 690 = .ok (.aload_n 1, 1) := by decide +kernel
theorem dL_law_691 : decode cL_law 691 = .ok (.iload 18, 2) := by decide +kernel
theorem dL_law_693 : decode cL_law 693 = .ok (.iconst 2, 1) := by decide +kernel
theorem dL_law_694 : decode cL_law 694 = .ok (.invokevirtual 135, 3) := by decide +kernel
theorem dL_law_697 : decode cL_law 697 = .ok (.aload 8, 2) := by decide +kernel
theorem dL_law_699 : decode cL_law 699 = .ok (.iload 18, 2) := by decide +kernel
theorem dL_law_701 : decode cL_law 701 = .ok (.aaload, 1) := by decide +kernel
theorem dL_law_702 : decode cL_law 702 = .ok (.iconst 2, 1) := by decide +kernel
theorem dL_law_703 : decode cL_law 703 = .ok (.iaload, 1) := by decide +kernel
theorem dL_law_704 : decode cL_law 704 = .ok (.if_icmp .ne 20, 3) := by decide +kernel
theorem dL_law_707 : decode cL_law 707 = .ok (.iload 19, 2) := by decide +kernel
theorem dL_law_709 : decode cL_law 709 = .ok (.iconst 1, 1) := by decide +kernel
theorem dL_law_710 : decode cL_law 710 = .ok (.if_icmp .ne 16, 3) := by decide +kernel
theorem dL_law_713 : decode cL_law 713 = .ok (.aload_n 1, 1) := by decide +kernel
theorem dL_law_714 : decode cL_law 714 = .ok (.iload 18, 2) := by decide +kernel
theorem dL_law_716 : decode cL_law 716 = .ok (.iconst 4, 1) := by decide +kernel
theorem dL_law_717 : decode cL_law 717 = .ok (.invokevirtual 135, 3) := by decide +kernel
theorem dL_law_720 : decode cL_law 720 = .ok (.iconst 5, 1) := by decide +kernel
theorem dL_law_721 : decode cL_law 721 = .ok (.if_icmp .eq 5, 3) := by decide +kernel
theorem dL_law_724 : decode cL_law 724 = .ok (.iconst 0, 1) := by decide +kernel
theorem dL_law_725 : decode cL_law 725 = .ok (.ireturn, 1) := by decide +kernel
theorem dL_law_726 : decode cL_law 726 = .ok (.iload 16, 2) := by decide +kernel
theorem dL_law_728 : decode cL_law 728 = .ok (.iload 19, 2) := by decide +kernel
theorem dL_law_730 : decode cL_law 730 = .ok (.iadd, 1) := by decide +kernel
theorem dL_law_731 : decode cL_law 731 = .ok (.istore 16, 2) := by decide +kernel
theorem dL_law_733 : decode cL_law 733 = .ok (.aload 8, 2) := by decide +kernel
theorem dL_law_735 : decode cL_law 735 = .ok (.iload 18, 2) := by decide +kernel
theorem dL_law_737 : decode cL_law 737 = .ok (.aaload, 1) := by decide +kernel
theorem dL_law_738 : decode cL_law 738 = .ok (.iconst 3, 1) := by decide +kernel
theorem dL_law_739 : decode cL_law 739 = .ok (.iaload, 1) := by decide +kernel
theorem dL_law_740 : decode cL_law 740 = .ok (.iconst 1, 1) := by decide +kernel
theorem dL_law_741 : decode cL_law 741 = .ok (.if_icmp .eq 6, 3) := by decide +kernel
theorem dL_law_744 : decode cL_law 744 = .ok (.goto 122, 3) := by decide +kernel
theorem dL_law_747 : decode cL_law 747 = .ok (.bipush 99, 2) := by decide +kernel
theorem dL_law_749 : decode cL_law 749 = .ok (.aload 8, 2) := by decide +kernel
theorem dL_law_751 : decode cL_law 751 = .ok (.iload 18, 2) := by decide +kernel
theorem dL_law_753 : decode cL_law 753 = .ok (.aaload, 1) := by decide +kernel
theorem dL_law_754 : decode cL_law 754 = .ok (.iconst 4, 1) := by decide +kernel
theorem dL_law_755 : decode cL_law 755 = .ok (.iaload, 1) := by decide +kernel
theorem dL_law_756 : decode cL_law 756 = .ok (.aload 8, 2) := by decide +kernel
theorem dL_law_758 : decode cL_law 758 = .ok (.iload 18, 2) := by decide +kernel
theorem dL_law_760 : decode cL_law 760 = .ok (.aaload, 1) := by decide +kernel
theorem dL_law_761 : decode cL_law 761 = .ok (.iconst 1, 1) := by decide +kernel
theorem dL_law_762 : decode cL_law 762 = .ok (.iaload, 1) := by decide +kernel
theorem dL_law_763 : decode cL_law 763 = .ok (.iadd, 1) := by decide +kernel
theorem dL_law_764 : decode cL_law 764 = .ok (.iload 20, 2) := by decide +kernel
theorem dL_law_766 : decode cL_law 766 = .ok (.iconst 4, 1) := by decide +kernel
theorem dL_law_767 : decode cL_law 767 = .ok (.idiv, 1) := by decide +kernel
theorem dL_law_768 : decode cL_law 768 = .ok (.isub, 1) := by decide +kernel
theorem dL_law_769 : decode cL_law 769 = .ok (.invokestatic 162, 3) := by decide +kernel
theorem dL_law_772 : decode cL_law 772 = .ok (.istore 21, 2) := by decide +kernel
theorem dL_law_774 : decode cL_law 774 = .ok (.iload 21, 2) := by decide +kernel
theorem dL_law_776 : decode cL_law 776 = .ok (.ifCond .gt 13, 3) := by decide +kernel
theorem dL_law_779 : decode cL_law 779 = .ok (.aload 8, 2) := by decide +kernel
theorem dL_law_781 : decode cL_law 781 = .ok (.iload 18, 2) := by decide +kernel
theorem dL_law_783 : decode cL_law 783 = .ok (.aaload, 1) := by decide +kernel
theorem dL_law_784 : decode cL_law 784 = .ok (.iconst 2, 1) := by decide +kernel
theorem dL_law_785 : decode cL_law 785 = .ok (.iaload, 1) := by decide +kernel
theorem dL_law_786 : decode cL_law 786 = .ok (.goto 22, 3) := by decide +kernel
theorem dL_law_789 : decode cL_law 789 = .ok (.iconst 0, 1) := by decide +kernel
theorem dL_law_790 : decode cL_law 790 = .ok (.aload 8, 2) := by decide +kernel
theorem dL_law_792 : decode cL_law 792 = .ok (.iload 18, 2) := by decide +kernel
theorem dL_law_794 : decode cL_law 794 = .ok (.aaload, 1) := by decide +kernel
theorem dL_law_795 : decode cL_law 795 = .ok (.iconst 2, 1) := by decide +kernel
theorem dL_law_796 : decode cL_law 796 = .ok (.iaload, 1) := by decide +kernel
theorem dL_law_797 : decode cL_law 797 = .ok (.iconst 1, 1) := by decide +kernel
theorem dL_law_798 : decode cL_law 798 = .ok (.isub, 1) := by decide +kernel
theorem dL_law_799 : decode cL_law 799 = .ok (.iload 21, 2) := by decide +kernel
theorem dL_law_801 : decode cL_law 801 = .ok (.bipush 25, 2) := by decide +kernel
theorem dL_law_803 : decode cL_law 803 = .ok (.idiv, 1) := by decide +kernel
theorem dL_law_804 : decode cL_law 804 = .ok (.isub, 1) := by decide +kernel
theorem dL_law_805 : decode cL_law 805 = .ok (.invokestatic 167, 3) := by decide +kernel
theorem dL_law_808 : decode cL_law 808 = .ok (.istore 22, 2) := by decide +kernel
theorem dL_law_810 : decode cL_law 810 = .ok (.iload 19, 2) := by decide +kernel
theorem dL_law_812 : decode cL_law 812 = .ok (.iload 21, 2) := by decide +kernel
theorem dL_law_814 : decode cL_law 814 = .ok (.ifCond .gt 7, 3) := by decide +kernel
theorem dL_law_817 : decode cL_law 817 = .ok (.iconst 2, 1) := by decide +kernel
theorem dL_law_818 : decode cL_law 818 = .ok (.goto 13, 3) := by decide +kernel
theorem dL_law_821 : decode cL_law 821 = .ok (.iload 22, 2) := by decide +kernel
theorem dL_law_823 : decode cL_law 823 = .ok (.ifCond .ne 7, 3) := by decide +kernel
theorem dL_law_826 : decode cL_law 826 = .ok (.iconst 3, 1) := by decide +kernel
theorem dL_law_827 : decode cL_law 827 = .ok (.goto 4, 3) := by decide +kernel
theorem dL_law_830 : decode cL_law 830 = .ok (.iconst 1, 1) := by decide +kernel
theorem dL_law_831 : decode cL_law 831 = .ok (.if_icmp .ne 33, 3) := by decide +kernel
theorem dL_law_834 : decode cL_law 834 = .ok (.aload_n 1, 1) := by decide +kernel
theorem dL_law_835 : decode cL_law 835 = .ok (.iload 18, 2) := by decide +kernel
theorem dL_law_837 : decode cL_law 837 = .ok (.iconst 2, 1) := by decide +kernel
theorem dL_law_838 : decode cL_law 838 = .ok (.invokevirtual 135, 3) := by decide +kernel
theorem dL_law_841 : decode cL_law 841 = .ok (.iload 22, 2) := by decide +kernel
theorem dL_law_843 : decode cL_law 843 = .ok (.if_icmp .ne 21, 3) := by decide +kernel
theorem dL_law_846 : decode cL_law 846 = .ok (.iload 19, 2) := by decide +kernel
theorem dL_law_848 : decode cL_law 848 = .ok (.iconst 1, 1) := by decide +kernel
theorem dL_law_849 : decode cL_law 849 = .ok (.if_icmp .ne 17, 3) := by decide +kernel
theorem dL_law_852 : decode cL_law 852 = .ok (.aload_n 1, 1) := by decide +kernel
theorem dL_law_853 : decode cL_law 853 = .ok (.iload 18, 2) := by decide +kernel
theorem dL_law_855 : decode cL_law 855 = .ok (.iconst 4, 1) := by decide +kernel
theorem dL_law_856 : decode cL_law 856 = .ok (.invokevirtual 135, 3) := by decide +kernel
theorem dL_law_859 : decode cL_law 859 = .ok (.iload 21, 2) := by decide +kernel
theorem dL_law_861 : decode cL_law 861 = .ok (.if_icmp .eq 5, 3) := by decide +kernel
theorem dL_law_864 : decode cL_law 864 = .ok (.iconst 0, 1) := by decide +kernel
theorem dL_law_865 : decode cL_law 865 = .ok (.ireturn, 1) := by decide +kernel
theorem dL_law_866 : decode cL_law 866 = .ok (.iinc 18 1, 3) := by decide +kernel
theorem dL_law_869 : decode cL_law 869 = .ok (.goto (-478), 3) := by decide +kernel
theorem dL_law_872 : decode cL_law 872 = .ok (.iload 16, 2) := by decide +kernel
theorem dL_law_874 : decode cL_law 874 = .ok (.iload 15, 2) := by decide +kernel
theorem dL_law_876 : decode cL_law 876 = .ok (.if_icmp .eq 5, 3) := by decide +kernel
theorem dL_law_879 : decode cL_law 879 = .ok (.iconst 0, 1) := by decide +kernel
theorem dL_law_880 : decode cL_law 880 = .ok (.ireturn, 1) := by decide +kernel
theorem dL_law_881 : decode cL_law 881 = .ok (.iconst 0, 1) := by decide +kernel
theorem dL_law_882 : decode cL_law 882 = .ok (.istore 18, 2) := by decide +kernel
theorem dL_law_884 : decode cL_law 884 = .ok (.iconst 0, 1) := by decide +kernel
theorem dL_law_885 : decode cL_law 885 = .ok (.istore 19, 2) := by decide +kernel
theorem dL_law_887 : decode cL_law 887 = .ok (.iconst 0, 1) := by decide +kernel
theorem dL_law_888 : decode cL_law 888 = .ok (.istore 20, 2) := by decide +kernel
theorem dL_law_890 : decode cL_law 890 = .ok (.iload 20, 2) := by decide +kernel
theorem dL_law_892 : decode cL_law 892 = .ok (.iload 5, 2) := by decide +kernel
theorem dL_law_894 : decode cL_law 894 = .ok (.if_icmp .ge 51, 3) := by decide +kernel
theorem dL_law_897 : decode cL_law 897 = .ok (.aload_n 1, 1) := by decide +kernel
theorem dL_law_898 : decode cL_law 898 = .ok (.iload 20, 2) := by decide +kernel
theorem dL_law_900 : decode cL_law 900 = .ok (.invokevirtual 141, 3) := by decide +kernel
theorem dL_law_903 : decode cL_law 903 = .ok (.ifCond .lt 17, 3) := by decide +kernel
theorem dL_law_906 : decode cL_law 906 = .ok (.aload_n 1, 1) := by decide +kernel
theorem dL_law_907 : decode cL_law 907 = .ok (.iload 20, 2) := by decide +kernel
theorem dL_law_909 : decode cL_law 909 = .ok (.invokevirtual 141, 3) := by decide +kernel
theorem dL_law_912 : decode cL_law 912 = .ok (.aload 10, 2) := by decide +kernel
theorem dL_law_914 : decode cL_law 914 = .ok (.iload 20, 2) := by decide +kernel
theorem dL_law_916 : decode cL_law 916 = .ok (.iaload, 1) := by decide +kernel
theorem dL_law_917 : decode cL_law 917 = .ok (.if_icmp .le 5, 3) := by decide +kernel
theorem dL_law_920 : decode cL_law 920 = .ok (.iconst 0, 1) := by decide +kernel
theorem dL_law_921 : decode cL_law 921 = .ok (.ireturn, 1) := by decide +kernel
theorem dL_law_922 : decode cL_law 922 = .ok (.iload 19, 2) := by decide +kernel
theorem dL_law_924 : decode cL_law 924 = .ok (.aload 10, 2) := by decide +kernel
theorem dL_law_926 : decode cL_law 926 = .ok (.iload 20, 2) := by decide +kernel
theorem dL_law_928 : decode cL_law 928 = .ok (.iaload, 1) := by decide +kernel
theorem dL_law_929 : decode cL_law 929 = .ok (.aload_n 1, 1) := by decide +kernel
theorem dL_law_930 : decode cL_law 930 = .ok (.iload 20, 2) := by decide +kernel
theorem dL_law_932 : decode cL_law 932 = .ok (.invokevirtual 141, 3) := by decide +kernel
theorem dL_law_935 : decode cL_law 935 = .ok (.isub, 1) := by decide +kernel
theorem dL_law_936 : decode cL_law 936 = .ok (.iadd, 1) := by decide +kernel
theorem dL_law_937 : decode cL_law 937 = .ok (.istore 19, 2) := by decide +kernel
theorem dL_law_939 : decode cL_law 939 = .ok (.iinc 20 1, 3) := by decide +kernel
theorem dL_law_942 : decode cL_law 942 = .ok (.goto (-52), 3) := by decide +kernel
theorem dL_law_945 : decode cL_law 945 = .ok (.iconst 0, 1) := by decide +kernel
theorem dL_law_946 : decode cL_law 946 = .ok (.istore 20, 2) := by decide +kernel
theorem dL_law_948 : decode cL_law 948 = .ok (.iload 20, 2) := by decide +kernel
theorem dL_law_950 : decode cL_law 950 = .ok (.iload 4, 2) := by decide +kernel
theorem dL_law_952 : decode cL_law 952 = .ok (.if_icmp .ge 302, 3) := by decide +kernel
theorem dL_law_955 : decode cL_law 955 = .ok (.aload_n 1, 1) := by decide +kernel
theorem dL_law_956 : decode cL_law 956 = .ok (.iload 20, 2) := by decide +kernel
theorem dL_law_958 : decode cL_law 958 = .ok (.bipush 8, 2) := by decide +kernel
theorem dL_law_960 : decode cL_law 960 = .ok (.invokevirtual 138, 3) := by decide +kernel
theorem dL_law_963 : decode cL_law 963 = .ok (.istore 21, 2) := by decide +kernel
theorem dL_law_965 : decode cL_law 965 = .ok (.aload 9, 2) := by decide +kernel
theorem dL_law_967 : decode cL_law 967 = .ok (.iload 20, 2) := by decide +kernel
theorem dL_law_969 : decode cL_law 969 = .ok (.aaload, 1) := by decide +kernel
theorem dL_law_970 : decode cL_law 970 = .ok (.iconst 3, 1) := by decide +kernel
theorem dL_law_971 : decode cL_law 971 = .ok (.iaload, 1) := by decide +kernel
theorem dL_law_972 : decode cL_law 972 = .ok (.ifCond .le 20, 3) := by decide +kernel
theorem dL_law_975 : decode cL_law 975 = .ok (.bipush 100, 2) := by decide +kernel
theorem dL_law_977 : decode cL_law 977 = .ok (.aload 9, 2) := by decide +kernel
theorem dL_law_979 : decode cL_law 979 = .ok (.iload 20, 2) := by decide +kernel
theorem dL_law_981 : decode cL_law 981 = .ok (.aaload, 1) := by decide +kernel
theorem dL_law_982 : decode cL_law 982 = .ok (.iconst 4, 1) := by decide +kernel
theorem dL_law_983 : decode cL_law 983 = .ok (.iaload, 1) := by decide +kernel
theorem dL_law_984 : decode cL_law 984 = .ok (.iconst 4, 1) := by decide +kernel
theorem dL_law_985 : decode cL_law 985 = .ok (.iadd, 1) := by decide +kernel
theorem dL_law_986 : decode cL_law 986 = .ok (.invokestatic 162, 3) := by decide +kernel
theorem dL_law_989 : decode cL_law 989 = .ok (.goto 16, 3) := by decide +kernel
theorem dL_law_992 : decode cL_law 992 = .ok (.iconst 0, 1) := by decide +kernel
theorem dL_law_993 : decode cL_law 993 = .ok (.aload 9, 2) := by decide +kernel
theorem dL_law_995 : decode cL_law 995 = .ok (.iload 20, 2) := by decide +kernel
theorem dL_law_997 : decode cL_law 997 = .ok (.aaload, 1) := by decide +kernel
theorem dL_law_998 : decode cL_law 998 = .ok (.iconst 4, 1) := by decide +kernel
theorem dL_law_999 : decode cL_law 999 = .ok (.iaload, 1) := by decide +kernel
theorem dL_law_1000 : decode cL_law 1000 = .ok (.iconst 3, 1) := by decide +kernel
theorem dL_law_1001 : decode cL_law 1001 = .ok (.isub, 1) := by decide +kernel
theorem dL_law_1002 : decode cL_law 1002 = .ok (.invokestatic 167, 3) := by decide +kernel
theorem dL_law_1005 : decode cL_law 1005 = .ok (.istore 22, 2) := by decide +kernel
theorem dL_law_1007 : decode cL_law 1007 = .ok (.iconst 0, 1) := by decide +kernel
theorem dL_law_1008 : decode cL_law 1008 = .ok (.aload 9, 2) := by decide +kernel
theorem dL_law_1010 : decode cL_law 1010 = .ok (.iload 20, 2) := by decide +kernel
theorem dL_law_1012 : decode cL_law 1012 = .ok (.aaload, 1) := by decide +kernel
theorem dL_law_1013 : decode cL_law 1013 = .ok (.iconst 5, 1) := by decide +kernel
theorem dL_law_1014 : decode cL_law 1014 = .ok (.iaload, 1) := by decide +kernel
theorem dL_law_1015 : decode cL_law 1015 = .ok (.iconst 1, 1) := by decide +kernel
theorem dL_law_1016 : decode cL_law 1016 = .ok (.isub, 1) := by decide +kernel
theorem dL_law_1017 : decode cL_law 1017 = .ok (.invokestatic 167, 3) := by decide +kernel
theorem dL_law_1020 : decode cL_law 1020 = .ok (.istore 23, 2) := by decide +kernel
theorem dL_law_1022 : decode cL_law 1022 = .ok (.iload 23, 2) := by decide +kernel
theorem dL_law_1024 : decode cL_law 1024 = .ok (.ifCond .gt 10, 3) := by decide +kernel
theorem dL_law_1027 : decode cL_law 1027 = .ok (.iload 22, 2) := by decide +kernel
theorem dL_law_1029 : decode cL_law 1029 = .ok (.bipush 20, 2) := by decide +kernel
theorem dL_law_1031 : decode cL_law 1031 = .ok (.if_icmp .ge 7, 3) := by decide +kernel
theorem dL_law_1034 : decode cL_law 1034 = .ok (.iconst 0, 1) := by decide +kernel
theorem dL_law_1035 : decode cL_law 1035 = .ok (.goto 16, 3) := by decide +kernel
theorem dL_law_1038 : decode cL_law 1038 = .ok (.aload 9, 2) := by decide +kernel
theorem dL_law_1040 : decode cL_law 1040 = .ok (.iload 20, 2) := by decide +kernel
theorem dL_law_1042 : decode cL_law 1042 = .ok (.aaload, 1) := by decide +kernel
theorem dL_law_1043 : decode cL_law 1043 = .ok (.iconst 2, 1) := by decide +kernel
theorem dL_law_1044 : decode cL_law 1044 = .ok (.iaload, 1) := by decide +kernel
theorem dL_law_1045 : decode cL_law 1045 = .ok (.iload 22, 2) := by decide +kernel
theorem dL_law_1047 : decode cL_law 1047 = .ok (.imul, 1) := by decide +kernel
theorem dL_law_1048 : decode cL_law 1048 = .ok (.bipush 20, 2) := by decide +kernel
theorem dL_law_1050 : decode cL_law 1050 = .ok (.idiv, 1) := by decide +kernel
theorem dL_law_1051 : decode cL_law 1051 = .ok (.istore 24, 2) := by decide +kernel
theorem dL_law_1053 : decode cL_law 1053 = .ok (.aload_n 1, 1) := by decide +kernel
theorem dL_law_1054 : decode cL_law 1054 = .ok (.iload 20, 2) := by decide +kernel
theorem dL_law_1056 : decode cL_law 1056 = .ok (.iconst 3, 1) := by decide +kernel
theorem dL_law_1057 : decode cL_law 1057 = .ok (.invokevirtual 138, 3) := by decide +kernel
theorem dL_law_1060 : decode cL_law 1060 = .ok (.iconst 0, 1) := by decide +kernel
theorem dL_law_1061 : decode cL_law 1061 = .ok (.aload 9, 2) := by decide +kernel
theorem dL_law_1063 : decode cL_law 1063 = .ok (.iload 20, 2) := by decide +kernel
theorem dL_law_1065 : decode cL_law 1065 = .ok (.aaload, 1) := by decide +kernel
theorem dL_law_1066 : decode cL_law 1066 = .ok (.iconst 3, 1) := by decide +kernel
theorem dL_law_1067 : decode cL_law 1067 = .ok (.iaload, 1) := by decide +kernel
theorem dL_law_1068 : decode cL_law 1068 = .ok (.iconst 1, 1) := by decide +kernel
theorem dL_law_1069 : decode cL_law 1069 = .ok (.isub, 1) := by decide +kernel
theorem dL_law_1070 : decode cL_law 1070 = .ok (.invokestatic 167, 3) := by decide +kernel
theorem dL_law_1073 : decode cL_law 1073 = .ok (.if_icmp .ne 89, 3) := by decide +kernel
theorem dL_law_1076 : decode cL_law 1076 = .ok (.aload_n 1, 1) := by decide +kernel
theorem dL_law_1077 : decode cL_law 1077 = .ok (.iload 20, 2) := by decide +kernel
theorem dL_law_1079 : decode cL_law 1079 = .ok (.iconst 4, 1) := by decide +kernel
theorem dL_law_1080 : decode cL_law 1080 = .ok (.invokevirtual 138, 3) := by decide +kernel
theorem dL_law_1083 : decode cL_law 1083 = .ok (.iconst 0, 1) := by decide +kernel
theorem dL_law_1084 : decode cL_law 1084 = .ok (.iload 22, 2) := by decide +kernel
theorem dL_law_1086 : decode cL_law 1086 = .ok (.iload 21, 2) := by decide +kernel
theorem dL_law_1088 : decode cL_law 1088 = .ok (.ifCond .le 7, 3) := by decide +kernel
theorem dL_law_1091 : decode cL_law 1091 = .ok (.iconst 2, 1) := by decide +kernel
theorem dL_law_1092 : decode cL_law 1092 = .ok (.goto 4, 3) := by decide +kernel
theorem dL_law_1095 : decode cL_law 1095 = .ok (.iconst 0, 1) := by decide +kernel
theorem dL_law_1096 : decode cL_law 1096 = .ok (.isub, 1) := by decide +kernel
theorem dL_law_1097 : decode cL_law 1097 = .ok (.invokestatic 167, 3) := by decide +kernel
theorem dL_law_1100 : decode cL_law 1100 = .ok (.if_icmp .ne 62, 3) := by decide +kernel
theorem dL_law_1103 : decode cL_law 1103 = .ok (.aload_n 1, 1) := by decide +kernel
theorem dL_law_1104 : decode cL_law 1104 = .ok (.iload 20, 2) := by decide +kernel
theorem dL_law_1106 : decode cL_law 1106 = .ok (.iconst 5, 1) := by decide +kernel
theorem dL_law_1107 : decode cL_law 1107 = .ok (.invokevirtual 138, 3) := by decide +kernel
theorem dL_law_1110 : decode cL_law 1110 = .ok (.iload 23, 2) := by decide +kernel
theorem dL_law_1112 : decode cL_law 1112 = .ok (.if_icmp .ne 50, 3) := by decide +kernel
theorem dL_law_1115 : decode cL_law 1115 = .ok (.iload 21, 2) := by decide +kernel
theorem dL_law_1117 : decode cL_law 1117 = .ok (.ifCond .lt 45, 3) := by decide +kernel
theorem dL_law_1120 : decode cL_law 1120 = .ok (.iload 21, 2) := by decide +kernel
theorem dL_law_1122 : decode cL_law 1122 = .ok (.iload 24, 2) := by decide +kernel
theorem dL_law_1124 : decode cL_law 1124 = .ok (.if_icmp .gt 38, 3) := by decide +kernel
theorem dL_law_1127 : decode cL_law 1127 = .ok (.aload_n 1, 1) := by decide +kernel
theorem dL_law_1128 : decode cL_law 1128 = .ok (.iload 20, 2) := by decide +kernel
theorem dL_law_1130 : decode cL_law 1130 = .ok (.bipush 6, 2) := by decide +kernel
theorem dL_law_1132 : decode cL_law 1132 = .ok (.invokevirtual 138, 3) := by decide +kernel
theorem dL_law_1135 : decode cL_law 1135 = .ok (.aload 9, 2) := by decide +kernel
theorem dL_law_1137 : decode cL_law 1137 = .ok (.iload 20, 2) := by decide +kernel
theorem dL_law_1139 : decode cL_law 1139 = .ok (.aaload, 1) := by decide +kernel
theorem dL_law_1140 : decode cL_law 1140 = .ok (.bipush 6, 2) := by decide +kernel
theorem dL_law_1142 : decode cL_law 1142 = .ok (.iaload, 1) := by decide +kernel
theorem dL_law_1143 : decode cL_law 1143 = .ok (.if_icmp .ne 19, 3) := by decide +kernel
theorem dL_law_1146 : decode cL_law 1146 = .ok (.aload 9, 2) := by decide +kernel
theorem dL_law_1148 : decode cL_law 1148 = .ok (.iload 20, 2) := by decide +kernel
theorem dL_law_1150 : decode cL_law 1150 = .ok (.aaload, 1) := by decide +kernel
theorem dL_law_1151 : decode cL_law 1151 = .ok (.bipush 6, 2) := by decide +kernel
theorem dL_law_1153 : decode cL_law 1153 = .ok (.iaload, 1) := by decide +kernel
theorem dL_law_1154 : decode cL_law 1154 = .ok (.ifCond .ge 10, 3) := by decide +kernel
theorem dL_law_1157 : decode cL_law 1157 = .ok (.iload 21, 2) := by decide +kernel
theorem dL_law_1159 : decode cL_law 1159 = .ok (.ifCond .eq 5, 3) := by decide +kernel
theorem dL_law_1162 : decode cL_law 1162 = .ok (.iconst 0, 1) := by decide +kernel
theorem dL_law_1163 : decode cL_law 1163 = .ok (.ireturn, 1) := by decide +kernel
theorem dL_law_1164 : decode cL_law 1164 = .ok (.aload 9, 2) := by decide +kernel
theorem dL_law_1166 : decode cL_law 1166 = .ok (.iload 20, 2) := by decide +kernel
theorem dL_law_1168 : decode cL_law 1168 = .ok (.aaload, 1) := by decide +kernel
theorem dL_law_1169 : decode cL_law 1169 = .ok (.iconst 5, 1) := by decide +kernel
theorem dL_law_1170 : decode cL_law 1170 = .ok (.iaload, 1) := by decide +kernel
theorem dL_law_1171 : decode cL_law 1171 = .ok (.iconst 1, 1) := by decide +kernel
theorem dL_law_1172 : decode cL_law 1172 = .ok (.if_icmp .eq 20, 3) := by decide +kernel
theorem dL_law_1175 : decode cL_law 1175 = .ok (.aload_n 1, 1) := by decide +kernel
theorem dL_law_1176 : decode cL_law 1176 = .ok (.iload 20, 2) := by decide +kernel
theorem dL_law_1178 : decode cL_law 1178 = .ok (.iconst 0, 1) := by decide +kernel
theorem dL_law_1179 : decode cL_law 1179 = .ok (.invokevirtual 138, 3) := by decide +kernel
theorem dL_law_1182 : decode cL_law 1182 = .ok (.aload 9, 2) := by decide +kernel
theorem dL_law_1184 : decode cL_law 1184 = .ok (.iload 20, 2) := by decide +kernel
theorem dL_law_1186 : decode cL_law 1186 = .ok (.aaload, 1) := by decide +kernel
theorem dL_law_1187 : decode cL_law 1187 = .ok (.iconst 0, 1) := by decide +kernel
theorem dL_law_1188 : decode cL_law 1188 = .ok (.iaload, 1) := by decide +kernel
theorem dL_law_1189 : decode cL_law 1189 = .ok (.if_icmp .ne 37, 3) := by decide +kernel
theorem dL_law_1192 : decode cL_law 1192 = .ok (.aload_n 1, 1) := by decide +kernel
theorem dL_law_1193 : decode cL_law 1193 = .ok (.iload 20, 2) := by decide +kernel
theorem dL_law_1195 : decode cL_law 1195 = .ok (.iconst 1, 1) := by decide +kernel
theorem dL_law_1196 : decode cL_law 1196 = .ok (.invokevirtual 138, 3) := by decide +kernel
theorem dL_law_1199 : decode cL_law 1199 = .ok (.aload 9, 2) := by decide +kernel
theorem dL_law_1201 : decode cL_law 1201 = .ok (.iload 20, 2) := by decide +kernel
theorem dL_law_1203 : decode cL_law 1203 = .ok (.aaload, 1) := by decide +kernel
theorem dL_law_1204 : decode cL_law 1204 = .ok (.iconst 1, 1) := by decide +kernel
theorem dL_law_1205 : decode cL_law 1205 = .ok (.iaload, 1) := by decide +kernel
theorem dL_law_1206 : decode cL_law 1206 = .ok (.if_icmp .ne 20, 3) := by decide +kernel
theorem dL_law_1209 : decode cL_law 1209 = .ok (.aload_n 1, 1) := by decide +kernel
theorem dL_law_1210 : decode cL_law 1210 = .ok (.iload 20, 2) := by decide +kernel
theorem dL_law_1212 : decode cL_law 1212 = .ok (.iconst 2, 1) := by decide +kernel
theorem dL_law_1213 : decode cL_law 1213 = .ok (.invokevirtual 138, 3) := by decide +kernel
theorem dL_law_1216 : decode cL_law 1216 = .ok (.aload 9, 2) := by decide +kernel
theorem dL_law_1218 : decode cL_law 1218 = .ok (.iload 20, 2) := by decide +kernel
theorem dL_law_1220 : decode cL_law 1220 = .ok (.aaload, 1) := by decide +kernel
theorem dL_law_1221 : decode cL_law 1221 = .ok (.iconst 2, 1) := by decide +kernel
theorem dL_law_1222 : decode cL_law 1222 = .ok (.iaload, 1) := by decide +kernel
theorem dL_law_1223 : decode cL_law 1223 = .ok (.if_icmp .eq 5, 3) := by decide +kernel
theorem dL_law_1226 : decode cL_law 1226 = .ok (.iconst 0, 1) := by decide +kernel
theorem dL_law_1227 : decode cL_law 1227 = .ok (.ireturn, 1) := by decide +kernel
theorem dL_law_1228 : decode cL_law 1228 = .ok (.aload 9, 2) := by decide +kernel
theorem dL_law_1230 : decode cL_law 1230 = .ok (.iload 20, 2) := by decide +kernel
theorem dL_law_1232 : decode cL_law 1232 = .ok (.aaload, 1) := by decide +kernel
theorem dL_law_1233 : decode cL_law 1233 = .ok (.bipush 6, 2) := by decide +kernel
theorem dL_law_1235 : decode cL_law 1235 = .ok (.iaload, 1) := by decide +kernel
theorem dL_law_1236 : decode cL_law 1236 = .ok (.bipush 100, 2) := by decide +kernel
theorem dL_law_1238 : decode cL_law 1238 = .ok (.if_icmp .lt 10, 3) := by decide +kernel
theorem dL_law_1241 : decode cL_law 1241 = .ok (.iload 18, 2) := by decide +kernel
theorem dL_law_1243 : decode cL_law 1243 = .ok (.iload 21, 2) := by decide +kernel
theorem dL_law_1245 : decode cL_law 1245 = .ok (.iadd, 1) := by decide +kernel
theorem dL_law_1246 : decode cL_law 1246 = .ok (.istore 18, 2) := by decide +kernel
theorem dL_law_1248 : decode cL_law 1248 = .ok (.iinc 20 1, 3) := by decide +kernel
theorem dL_law_1251 : decode cL_law 1251 = .ok (.goto (-303), 3) := by decide +kernel
theorem dL_law_1254 : decode cL_law 1254 = .ok (.iload 17, 2) := by decide +kernel
theorem dL_law_1256 : decode cL_law 1256 = .ok (.iload 18, 2) := by decide +kernel
theorem dL_law_1258 : decode cL_law 1258 = .ok (.if_icmp .gt 20, 3) := by decide +kernel
theorem dL_law_1261 : decode cL_law 1261 = .ok (.iload 17, 2) := by decide +kernel
theorem dL_law_1263 : decode cL_law 1263 = .ok (.iload 19, 2) := by decide +kernel
theorem dL_law_1265 : decode cL_law 1265 = .ok (.if_icmp .gt 13, 3) := by decide +kernel
theorem dL_law_1268 : decode cL_law 1268 = .ok (.iload 18, 2) := by decide +kernel
theorem dL_law_1270 : decode cL_law 1270 = .ok (.ifCond .le 10, 3) := by decide +kernel
theorem dL_law_1273 : decode cL_law 1273 = .ok (.iload 17, 2) := by decide +kernel
theorem dL_law_1275 : decode cL_law 1275 = .ok (.ifCond .ne 5, 3) := by decide +kernel
theorem dL_law_1278 : decode cL_law 1278 = .ok (.iconst 0, 1) := by decide +kernel
theorem dL_law_1279 : decode cL_law 1279 = .ok (.ireturn, 1) := by decide +kernel
theorem dL_law_1280 : decode cL_law 1280 = .ok (.iinc 6 1, 3) := by decide +kernel
theorem dL_law_1283 : decode cL_law 1283 = .ok (.goto (-1240), 3) := by decide +kernel
theorem dL_law_1286 : decode cL_law 1286 = .ok (.iconst 1, 1) := by decide +kernel
theorem dL_law_1287 : decode cL_law 1287 = .ok (.ireturn, 1) := by decide +kernel
