theorem dX6_way_62 : decode cX6_way 62 = .ok (.getfield 32, 3) := by decide +kernel
theorem dX6_way_65 : decode cX6_way 65 = .ok (.iload 4, 2) := by decide +kernel
theorem dX6_way_67 : decode cX6_way 67 = .ok (.iaload, 1) := by decide +kernel
theorem dX6_way_68 : decode cX6_way 68 = .ok (.iconst (-1), 1) := by decide +kernel
theorem dX6_way_69 : decode cX6_way 69 = .ok (.if_icmp .ne 139, 3) := by decide +kernel
theorem dX6_way_72 : decode cX6_way 72 = .ok (.aload_n 0, 1) := by decide +kernel
theorem dX6_way_73 : decode cX6_way 73 = .ok (.iload 4, 2) := by decide +kernel
theorem dX6_way_75 : decode cX6_way 75 = .ok (.invokevirtual 77, 3) := by decide +kernel
theorem dX6_way_78 : decode cX6_way 78 = .ok (.ifCond .ne 6, 3) := by decide +kernel
theorem dX6_way_81 : decode cX6_way 81 = .ok (.goto 127, 3) := by decide +kernel
theorem dX6_way_84 : decode cX6_way 84 = .ok (.iload 4, 2) := by decide +kernel
theorem dX6_way_86 : decode cX6_way 86 = .ok (.bipush 14, 2) := by decide +kernel
theorem dX6_way_88 : decode cX6_way 88 = .ok (.if_icmp .lt 17, 3) := by decide +kernel
theorem dX6_way_91 : decode cX6_way 91 = .ok (.aload_n 0, 1) := by decide +kernel
theorem dX6_way_92 : decode cX6_way 92 = .ok (.getfield 32, 3) := by decide +kernel
theorem dX6_way_95 : decode cX6_way 95 = .ok (.iload 4, 2) := by decide +kernel
theorem dX6_way_97 : decode cX6_way 97 = .ok (.bipush 14, 2) := by decide +kernel
theorem dX6_way_99 : decode cX6_way 99 = .ok (.isub, 1) := by decide +kernel
theorem dX6_way_100 : decode cX6_way 100 = .ok (.iaload, 1) := by decide +kernel
theorem dX6_way_101 : decode cX6_way 101 = .ok (.iload_n 3, 1) := by decide +kernel
theorem dX6_way_102 : decode cX6_way 102 = .ok (.if_icmp .eq 28, 3) := by decide +kernel
theorem dX6_way_105 : decode cX6_way 105 = .ok (.iload 4, 2) := by decide +kernel
theorem dX6_way_107 : decode cX6_way 107 = .ok (.bipush 14, 2) := by decide +kernel
theorem dX6_way_109 : decode cX6_way 109 = .ok (.iadd, 1) := by decide +kernel
theorem dX6_way_110 : decode cX6_way 110 = .ok (.sipush 140, 3) := by decide +kernel
theorem dX6_way_113 : decode cX6_way 113 = .ok (.if_icmp .ge 21, 3) := by decide +kernel
theorem dX6_way_116 : decode cX6_way 116 = .ok (.aload_n 0, 1) := by decide +kernel
theorem dX6_way_117 : decode cX6_way 117 = .ok (.getfield 32, 3) := by decide +kernel
theorem dX6_way_120 : decode cX6_way 120 = .ok (.iload 4, 2) := by decide +kernel
theorem dX6_way_122 : decode cX6_way 122 = .ok (.bipush 14, 2) := by decide +kernel
theorem dX6_way_124 : decode cX6_way 124 = .ok (.iadd, 1) := by decide +kernel
theorem dX6_way_125 : decode cX6_way 125 = .ok (.iaload, 1) := by decide +kernel
theorem dX6_way_126 : decode cX6_way 126 = .ok (.iload_n 3, 1) := by decide +kernel
theorem dX6_way_127 : decode cX6_way 127 = .ok (.if_icmp .ne 7, 3) := by decide +kernel
theorem dX6_way_130 : decode cX6_way 130 = .ok (.iconst 1, 1) := by decide +kernel
theorem dX6_way_131 : decode cX6_way 131 = .ok (.goto 4, 3) := by decide +kernel
theorem dX6_way_134 : decode cX6_way 134 = .ok (.iconst 0, 1) := by decide +kernel
theorem dX6_way_135 : decode cX6_way 135 = .ok (.istore 5, 2) := by decide +kernel
theorem dX6_way_137 : decode cX6_way 137 = .ok (.iload 5, 2) := by decide +kernel
theorem dX6_way_139 : decode cX6_way 139 = .ok (.ifCond .ne 47, 3) := by decide +kernel
theorem dX6_way_142 : decode cX6_way 142 = .ok (.iload 4, 2) := by decide +kernel
theorem dX6_way_144 : decode cX6_way 144 = .ok (.bipush 14, 2) := by decide +kernel
theorem dX6_way_146 : decode cX6_way 146 = .ok (.irem, 1) := by decide +kernel
theorem dX6_way_147 : decode cX6_way 147 = .ok (.ifCond .le 16, 3) := by decide +kernel
theorem dX6_way_150 : decode cX6_way 150 = .ok (.aload_n 0, 1) := by decide +kernel
theorem dX6_way_151 : decode cX6_way 151 = .ok (.getfield 32, 3) := by decide +kernel
theorem dX6_way_154 : decode cX6_way 154 = .ok (.iload 4, 2) := by decide +kernel
theorem dX6_way_156 : decode cX6_way 156 = .ok (.iconst 1, 1) := by decide +kernel
theorem dX6_way_157 : decode cX6_way 157 = .ok (.isub, 1) := by decide +kernel
theorem dX6_way_158 : decode cX6_way 158 = .ok (.iaload, 1) := by decide +kernel
theorem dX6_way_159 : decode cX6_way 159 = .ok (.iload_n 3, 1) := by decide +kernel
theorem dX6_way_160 : decode cX6_way 160 = .ok (.if_icmp .eq 26, 3) := by decide +kernel
theorem dX6_way_163 : decode cX6_way 163 = .ok (.iload 4, 2) := by decide +kernel
theorem dX6_way_165 : decode cX6_way 165 = .ok (.bipush 14, 2) := by decide +kernel
theorem dX6_way_167 : decode cX6_way 167 = .ok (.irem, 1) := by decide +kernel
theorem dX6_way_168 : decode cX6_way 168 = .ok (.bipush 13, 2) := by decide +kernel
theorem dX6_way_170 : decode cX6_way 170 = .ok (.if_icmp .ge 20, 3) := by decide +kernel
theorem dX6_way_173 : decode cX6_way 173 = .ok (.aload_n 0, 1) := by decide +kernel
theorem dX6_way_174 : decode cX6_way 174 = .ok (.getfield 32, 3) := by decide +kernel
theorem dX6_way_177 : decode cX6_way 177 = .ok (.iload 4, 2) := by decide +kernel
theorem dX6_way_179 : decode cX6_way 179 = .ok (.iconst 1, 1) := by decide +kernel
theorem dX6_way_180 : decode cX6_way 180 = .ok (.iadd, 1) := by decide +kernel
theorem dX6_way_181 : decode cX6_way 181 = .ok (.iaload, 1) := by decide +kernel
theorem dX6_way_182 : decode cX6_way 182 = .ok (.iload_n 3, 1) := by decide +kernel
theorem dX6_way_183 : decode cX6_way 183 = .ok (.if_icmp .ne 7, 3) := by decide +kernel
theorem dX6_way_186 : decode cX6_way 186 = .ok (.iconst 1, 1) := by decide +kernel
theorem dX6_way_187 : decode cX6_way 187 = .ok (.goto 4, 3) := by decide +kernel
theorem dX6_way_190 : decode cX6_way 190 = .ok (.iconst 0, 1) := by decide +kernel
theorem dX6_way_191 : decode cX6_way 191 = .ok (.istore 5, 2) := by decide +kernel
theorem dX6_way_193 : decode cX6_way 193 = .ok (.iload 5, 2) := by decide +kernel
theorem dX6_way_195 : decode cX6_way 195 = .ok (.ifCond .eq 13, 3) := by decide +kernel
theorem dX6_way_198 : decode cX6_way 198 = .ok (.aload_n 0, 1) := by decide +kernel
theorem dX6_way_199 : decode cX6_way 199 = .ok (.getfield 32, 3) := by decide +kernel
theorem dX6_way_202 : decode cX6_way 202 = .ok (.iload 4, 2) := by decide +kernel
theorem dX6_way_204 : decode cX6_way 204 = .ok (.iload_n 3, 1) := by decide +kernel
theorem dX6_way_205 : decode cX6_way 205 = .ok (.iconst 1, 1) := by decide +kernel
theorem dX6_way_206 : decode cX6_way 206 = .ok (.iadd, 1) := by decide +kernel
theorem dX6_way_207 : decode cX6_way 207 = .ok (.iastore, 1) := by decide +kernel
theorem dX6_way_208 : decode cX6_way 208 = .ok (.iinc 4 1, 3) := by decide +kernel
theorem dX6_way_211 : decode cX6_way 211 = .ok (.goto (-158), 3) := by decide +kernel
theorem dX6_way_214 : decode cX6_way 214 = .ok (.iinc 3 1, 3) := by decide +kernel
theorem dX6_way_217 : decode cX6_way 217 = .ok (.goto (-184), 3) := by decide +kernel
theorem dX6_way_220 : decode cX6_way 220 = .ok (.aload_n 0, 1) := by decide +kernel
theorem dX6_way_221 : decode cX6_way 221 = .ok (.getfield 32, 3) := by decide +kernel
theorem dX6_way_224 : decode cX6_way 224 = .ok (.iload_n 2, 1) := by decide +kernel
theorem dX6_way_225 : decode cX6_way 225 = .ok (.iaload, 1) := by decide +kernel
theorem dX6_way_226 : decode cX6_way 226 = .ok (.ireturn, 1) := by decide +kernel
theorem dX6_drive_0 : decode cX6_drive 0 = .ok (.aload_n 0, 1) := by decide +kernel
theorem dX6_drive_1 : decode cX6_drive 1 = .ok (.iconst 0, 1) := by decide +kernel
theorem dX6_drive_2 : decode cX6_drive 2 = .ok (.putfield 38, 3) := by decide +kernel
theorem dX6_drive_5 : decode cX6_drive 5 = .ok (.aload_n 0, 1) := by decide +kernel
theorem dX6_drive_6 : decode cX6_drive 6 = .ok (.iload_n 1, 1) := by decide +kernel
theorem dX6_drive_7 : decode cX6_drive 7 = .ok (.invokevirtual 116, 3) := by decide +kernel
theorem dX6_drive_10 : decode cX6_drive 10 = .ok (.ifCond .eq 11, 3) := by decide +kernel
theorem dX6_drive_13 : decode cX6_drive 13 = .ok (.iload_n 2, 1) := by decide +kernel
theorem dX6_drive_14 : decode cX6_drive 14 = .ok (.iload_n 3, 1) := by decide +kernel
theorem dX6_drive_15 : decode cX6_drive 15 = .ok (.invokestatic 84, 3) := by decide +kernel
theorem dX6_drive_18 : decode cX6_drive 18 = .ok (.ifCond .ne 9, 3) := by decide +kernel
theorem dX6_drive_21 : decode cX6_drive 21 = .ok (.aload_n 0, 1) := by decide +kernel
theorem dX6_drive_22 : decode cX6_drive 22 = .ok (.iconst 1, 1) := by decide +kernel
theorem dX6_drive_23 : decode cX6_drive 23 = .ok (.invokevirtual 88, 3) := by decide +kernel
theorem dX6_drive_26 : decode cX6_drive 26 = .ok (.ireturn, 1) := by decide +kernel
theorem dX6_drive_27 : decode cX6_drive 27 = .ok (.iload_n 2, 1) := by decide +kernel
theorem dX6_drive_28 : decode cX6_drive 28 = .ok (.bipush 14, 2) := by decide +kernel
theorem dX6_drive_30 : decode cX6_drive 30 = .ok (.iload_n 3, 1) := by decide +kernel
theorem dX6_drive_31 : decode cX6_drive 31 = .ok (.imul, 1) := by decide +kernel
theorem dX6_drive_32 : decode cX6_drive 32 = .ok (.iadd, 1) := by decide +kernel
theorem dX6_drive_33 : decode cX6_drive 33 = .ok (.istore 4, 2) := by decide +kernel
theorem dX6_drive_35 : decode cX6_drive 35 = .ok (.aload_n 0, 1) := by decide +kernel
theorem dX6_drive_36 : decode cX6_drive 36 = .ok (.iload_n 1, 1) := by decide +kernel
theorem dX6_drive_37 : decode cX6_drive 37 = .ok (.iconst 5, 1) := by decide +kernel
theorem dX6_drive_38 : decode cX6_drive 38 = .ok (.invokevirtual 81, 3) := by decide +kernel
theorem dX6_drive_41 : decode cX6_drive 41 = .ok (.ifCond .gt 30, 3) := by decide +kernel
theorem dX6_drive_44 : decode cX6_drive 44 = .ok (.aload_n 0, 1) := by decide +kernel
theorem dX6_drive_45 : decode cX6_drive 45 = .ok (.iload_n 1, 1) := by decide +kernel
theorem dX6_drive_46 : decode cX6_drive 46 = .ok (.iconst 0, 1) := by decide +kernel
theorem dX6_drive_47 : decode cX6_drive 47 = .ok (.invokevirtual 81, 3) := by decide +kernel
theorem dX6_drive_50 : decode cX6_drive 50 = .ok (.iload 4, 2) := by decide +kernel
theorem dX6_drive_52 : decode cX6_drive 52 = .ok (.if_icmp .eq 19, 3) := by decide +kernel
theorem dX6_drive_55 : decode cX6_drive 55 = .ok (.aload_n 0, 1) := by decide +kernel
theorem dX6_drive_56 : decode cX6_drive 56 = .ok (.aload_n 0, 1) := by decide +kernel
theorem dX6_drive_57 : decode cX6_drive 57 = .ok (.iload_n 1, 1) := by decide +kernel
theorem dX6_drive_58 : decode cX6_drive 58 = .ok (.iconst 0, 1) := by decide +kernel
theorem dX6_drive_59 : decode cX6_drive 59 = .ok (.invokevirtual 81, 3) := by decide +kernel
theorem dX6_drive_62 : decode cX6_drive 62 = .ok (.iload 4, 2) := by decide +kernel
theorem dX6_drive_64 : decode cX6_drive 64 = .ok (.invokevirtual 122, 3) := by decide +kernel
theorem dX6_drive_67 : decode cX6_drive 67 = .ok (.iconst (-1), 1) := by decide +kernel
theorem dX6_drive_68 : decode cX6_drive 68 = .ok (.if_icmp .ne 9, 3) := by decide +kernel
theorem dX6_drive_71 : decode cX6_drive 71 = .ok (.aload_n 0, 1) := by decide +kernel
theorem dX6_drive_72 : decode cX6_drive 72 = .ok (.iconst 2, 1) := by decide +kernel
theorem dX6_drive_73 : decode cX6_drive 73 = .ok (.invokevirtual 88, 3) := by decide +kernel
theorem dX6_drive_76 : decode cX6_drive 76 = .ok (.ireturn, 1) := by decide +kernel
theorem dX6_drive_77 : decode cX6_drive 77 = .ok (.aload_n 0, 1) := by decide +kernel
theorem dX6_drive_78 : decode cX6_drive 78 = .ok (.iload_n 1, 1) := by decide +kernel
theorem dX6_drive_79 : decode cX6_drive 79 = .ok (.iconst 5, 1) := by decide +kernel
theorem dX6_drive_80 : decode cX6_drive 80 = .ok (.aload_n 0, 1) := by decide +kernel
theorem dX6_drive_81 : decode cX6_drive 81 = .ok (.getfield 32, 3) := by decide +kernel
theorem dX6_drive_84 : decode cX6_drive 84 = .ok (.iload 4, 2) := by decide +kernel
theorem dX6_drive_86 : decode cX6_drive 86 = .ok (.iaload, 1) := by decide +kernel
theorem dX6_drive_87 : decode cX6_drive 87 = .ok (.iconst 5, 1) := by decide +kernel
theorem dX6_drive_88 : decode cX6_drive 88 = .ok (.aload_n 0, 1) := by decide +kernel
theorem dX6_drive_89 : decode cX6_drive 89 = .ok (.iload_n 1, 1) := by decide +kernel
theorem dX6_drive_90 : decode cX6_drive 90 = .ok (.iconst 1, 1) := by decide +kernel
theorem dX6_drive_91 : decode cX6_drive 91 = .ok (.invokevirtual 81, 3) := by decide +kernel
theorem dX6_drive_94 : decode cX6_drive 94 = .ok (.isub, 1) := by decide +kernel
theorem dX6_drive_95 : decode cX6_drive 95 = .ok (.imul, 1) := by decide +kernel
theorem dX6_drive_96 : decode cX6_drive 96 = .ok (.invokevirtual 119, 3) := by decide +kernel
theorem dX6_drive_99 : decode cX6_drive 99 = .ok (.aload_n 0, 1) := by decide +kernel
theorem dX6_drive_100 : decode cX6_drive 100 = .ok (.iload_n 1, 1) := by decide +kernel
theorem dX6_drive_101 : decode cX6_drive 101 = .ok (.bipush 6, 2) := by decide +kernel
theorem dX6_drive_103 : decode cX6_drive 103 = .ok (.iload 4, 2) := by decide +kernel
theorem dX6_drive_105 : decode cX6_drive 105 = .ok (.invokevirtual 119, 3) := by decide +kernel
theorem dX6_drive_108 : decode cX6_drive 108 = .ok (.aload_n 0, 1) := by decide +kernel
theorem dX6_drive_109 : decode cX6_drive 109 = .ok (.iload_n 1, 1) := by decide +kernel
theorem dX6_drive_110 : decode cX6_drive 110 = .ok (.bipush 7, 2) := by decide +kernel
theorem dX6_drive_112 : decode cX6_drive 112 = .ok (.iconst (-1), 1) := by decide +kernel
theorem dX6_drive_113 : decode cX6_drive 113 = .ok (.invokevirtual 119, 3) := by decide +kernel
theorem dX6_drive_116 : decode cX6_drive 116 = .ok (.iconst 0, 1) := by decide +kernel
theorem dX6_drive_117 : decode cX6_drive 117 = .ok (.istore 5, 2) := by decide +kernel
theorem dX6_drive_119 : decode cX6_drive 119 = .ok (.iload 5, 2) := by decide +kernel
theorem dX6_drive_121 : decode cX6_drive 121 = .ok (.aload_n 0, 1) := by decide +kernel
theorem dX6_drive_122 : decode cX6_drive 122 = .ok (.getfield 62, 3) := by decide +kernel
theorem dX6_drive_125 : decode cX6_drive 125 = .ok (.if_icmp .ge 30, 3) := by decide +kernel
theorem dX6_drive_128 : decode cX6_drive 128 = .ok (.aload_n 0, 1) := by decide +kernel
theorem dX6_drive_129 : decode cX6_drive 129 = .ok (.iload 5, 2) := by decide +kernel
theorem dX6_drive_131 : decode cX6_drive 131 = .ok (.bipush 7, 2) := by decide +kernel
theorem dX6_drive_133 : decode cX6_drive 133 = .ok (.invokevirtual 81, 3) := by decide +kernel
theorem dX6_drive_136 : decode cX6_drive 136 = .ok (.iload_n 1, 1) := by decide +kernel
theorem dX6_drive_137 : decode cX6_drive 137 = .ok (.if_icmp .ne 12, 3) := by decide +kernel
theorem dX6_drive_140 : decode cX6_drive 140 = .ok (.aload_n 0, 1) := by decide +kernel
theorem dX6_drive_141 : decode cX6_drive 141 = .ok (.iload 5, 2) := by decide +kernel
theorem dX6_drive_143 : decode cX6_drive 143 = .ok (.bipush 7, 2) := by decide +kernel
theorem dX6_drive_145 : decode cX6_drive 145 = .ok (.iconst (-1), 1) := by decide +kernel
theorem dX6_drive_146 : decode cX6_drive 146 = .ok (.invokevirtual 119, 3) := by decide +kernel
theorem dX6_drive_149 : decode cX6_drive 149 = .ok (.iinc 5 1, 3) := by decide +kernel
theorem dX6_drive_152 : decode cX6_drive 152 = .ok (.goto (-33), 3) := by decide +kernel
theorem dX6_drive_155 : decode cX6_drive 155 = .ok (.aload_n 0, 1) := by decide +kernel
theorem dX6_drive_156 : decode cX6_drive 156 = .ok (.iload_n 1, 1) := by decide +kernel
theorem dX6_drive_157 : decode cX6_drive 157 = .ok (.iconst 5, 1) := by decide +kernel
theorem dX6_drive_158 : decode cX6_drive 158 = .ok (.invokevirtual 81, 3) := by decide +kernel
theorem dX6_drive_161 : decode cX6_drive 161 = .ok (.ireturn, 1) := by decide +kernel
theorem dX6_stands_0 : decode cX6_stands 0 = .ok (.aload_n 0, 1) := by decide +kernel
theorem dX6_stands_1 : decode cX6_stands 1 = .ok (.iload_n 1, 1) := by decide +kernel
theorem dX6_stands_2 : decode cX6_stands 2 = .ok (.iconst 5, 1) := by decide +kernel
theorem dX6_stands_3 : decode cX6_stands 3 = .ok (.invokevirtual 81, 3) := by decide +kernel
theorem dX6_stands_6 : decode cX6_stands 6 = .ok (.ifCond .ne 7, 3) := by decide +kernel
theorem dX6_stands_9 : decode cX6_stands 9 = .ok (.iconst 1, 1) := by decide +kernel
theorem dX6_stands_10 : decode cX6_stands 10 = .ok (.goto 4, 3) := by decide +kernel
theorem dX6_stands_13 : decode cX6_stands 13 = .ok (.iconst 0, 1) := by decide +kernel
theorem dX6_stands_14 : decode cX6_stands 14 = .ok (.ireturn, 1) := by decide +kernel
theorem dX6_leads_0 : decode cX6_leads 0 = .ok (.iload_n 1, 1) := by decide +kernel
theorem dX6_leads_1 : decode cX6_leads 1 = .ok (.istore_n 3, 1) := by decide +kernel
theorem dX6_leads_2 : decode cX6_leads 2 = .ok (.iload_n 3, 1) := by decide +kernel
theorem dX6_leads_3 : decode cX6_leads 3 = .ok (.iload_n 2, 1) := by decide +kernel
theorem dX6_leads_4 : decode cX6_leads 4 = .ok (.if_icmp .eq 29, 3) := by decide +kernel
theorem dX6_leads_7 : decode cX6_leads 7 = .ok (.aload_n 0, 1) := by decide +kernel
theorem dX6_leads_8 : decode cX6_leads 8 = .ok (.iload_n 3, 1) := by decide +kernel
theorem dX6_leads_9 : decode cX6_leads 9 = .ok (.bipush 7, 2) := by decide +kernel
theorem dX6_leads_11 : decode cX6_leads 11 = .ok (.invokevirtual 81, 3) := by decide +kernel
theorem dX6_leads_14 : decode cX6_leads 14 = .ok (.iconst 0, 1) := by decide +kernel
theorem dX6_leads_15 : decode cX6_leads 15 = .ok (.iconst 5, 1) := by decide +kernel
theorem dX6_leads_16 : decode cX6_leads 16 = .ok (.invokestatic 42, 3) := by decide +kernel
theorem dX6_leads_19 : decode cX6_leads 19 = .ok (.ifCond .eq 14, 3) := by decide +kernel
theorem dX6_leads_22 : decode cX6_leads 22 = .ok (.aload_n 0, 1) := by decide +kernel
theorem dX6_leads_23 : decode cX6_leads 23 = .ok (.iload_n 3, 1) := by decide +kernel
theorem dX6_leads_24 : decode cX6_leads 24 = .ok (.bipush 7, 2) := by decide +kernel
theorem dX6_leads_26 : decode cX6_leads 26 = .ok (.invokevirtual 81, 3) := by decide +kernel
theorem dX6_leads_29 : decode cX6_leads 29 = .ok (.istore_n 3, 1) := by decide +kernel
theorem dX6_leads_30 : decode cX6_leads 30 = .ok (.goto (-28), 3) := by decide +kernel
theorem dX6_leads_33 : decode cX6_leads 33 = .ok (.iload_n 3, 1) := by decide +kernel
theorem dX6_leads_34 : decode cX6_leads 34 = .ok (.iload_n 2, 1) := by decide +kernel
theorem dX6_leads_35 : decode cX6_leads 35 = .ok (.if_icmp .ne 7, 3) := by decide +kernel
theorem dX6_leads_38 : decode cX6_leads 38 = .ok (.iconst 1, 1) := by decide +kernel
theorem dX6_leads_39 : decode cX6_leads 39 = .ok (.goto 4, 3) := by decide +kernel
theorem dX6_leads_42 : decode cX6_leads 42 = .ok (.iconst 0, 1) := by decide +kernel
theorem dX6_leads_43 : decode cX6_leads 43 = .ok (.ireturn, 1) := by decide +kernel
theorem dX6_relay_0 : decode cX6_relay 0 = .ok (.aload_n 0, 1) := by decide +kernel
theorem dX6_relay_1 : decode cX6_relay 1 = .ok (.iconst 0, 1) := by decide +kernel
theorem dX6_relay_2 : decode cX6_relay 2 = .ok (.putfield 38, 3) := by decide +kernel
theorem dX6_relay_5 : decode cX6_relay 5 = .ok (.aload_n 0, 1) := by decide +kernel
theorem dX6_relay_6 : decode cX6_relay 6 = .ok (.iload_n 1, 1) := by decide +kernel
theorem dX6_relay_7 : decode cX6_relay 7 = .ok (.invokevirtual 116, 3) := by decide +kernel
theorem dX6_relay_10 : decode cX6_relay 10 = .ok (.ifCond .eq 11, 3) := by decide +kernel
theorem dX6_relay_13 : decode cX6_relay 13 = .ok (.aload_n 0, 1) := by decide +kernel
theorem dX6_relay_14 : decode cX6_relay 14 = .ok (.iload_n 2, 1) := by decide +kernel
theorem dX6_relay_15 : decode cX6_relay 15 = .ok (.invokevirtual 116, 3) := by decide +kernel
theorem dX6_relay_18 : decode cX6_relay 18 = .ok (.ifCond .ne 9, 3) := by decide +kernel
theorem dX6_relay_21 : decode cX6_relay 21 = .ok (.aload_n 0, 1) := by decide +kernel
theorem dX6_relay_22 : decode cX6_relay 22 = .ok (.iconst 1, 1) := by decide +kernel
theorem dX6_relay_23 : decode cX6_relay 23 = .ok (.invokevirtual 88, 3) := by decide +kernel
theorem dX6_relay_26 : decode cX6_relay 26 = .ok (.ireturn, 1) := by decide +kernel
theorem dX6_relay_27 : decode cX6_relay 27 = .ok (.aload_n 0, 1) := by decide +kernel
theorem dX6_relay_28 : decode cX6_relay 28 = .ok (.iload_n 1, 1) := by decide +kernel
theorem dX6_relay_29 : decode cX6_relay 29 = .ok (.iconst 0, 1) := by decide +kernel
theorem dX6_relay_30 : decode cX6_relay 30 = .ok (.invokevirtual 81, 3) := by decide +kernel
theorem dX6_relay_33 : decode cX6_relay 33 = .ok (.aload_n 0, 1) := by decide +kernel
theorem dX6_relay_34 : decode cX6_relay 34 = .ok (.iload_n 2, 1) := by decide +kernel
theorem dX6_relay_35 : decode cX6_relay 35 = .ok (.iconst 0, 1) := by decide +kernel
theorem dX6_relay_36 : decode cX6_relay 36 = .ok (.invokevirtual 81, 3) := by decide +kernel
theorem dX6_relay_39 : decode cX6_relay 39 = .ok (.invokestatic 125, 3) := by decide +kernel
theorem dX6_relay_42 : decode cX6_relay 42 = .ok (.istore_n 3, 1) := by decide +kernel
theorem dX6_relay_43 : decode cX6_relay 43 = .ok (.aload_n 0, 1) := by decide +kernel
theorem dX6_relay_44 : decode cX6_relay 44 = .ok (.iload_n 1, 1) := by decide +kernel
theorem dX6_relay_45 : decode cX6_relay 45 = .ok (.invokevirtual 128, 3) := by decide +kernel
theorem dX6_relay_48 : decode cX6_relay 48 = .ok (.ifCond .eq 26, 3) := by decide +kernel
theorem dX6_relay_51 : decode cX6_relay 51 = .ok (.aload_n 0, 1) := by decide +kernel
theorem dX6_relay_52 : decode cX6_relay 52 = .ok (.iload_n 2, 1) := by decide +kernel
theorem dX6_relay_53 : decode cX6_relay 53 = .ok (.invokevirtual 128, 3) := by decide +kernel
theorem dX6_relay_56 : decode cX6_relay 56 = .ok (.ifCond .eq 18, 3) := by decide +kernel
theorem dX6_relay_59 : decode cX6_relay 59 = .ok (.iload_n 3, 1) := by decide +kernel
theorem dX6_relay_60 : decode cX6_relay 60 = .ok (.bipush 6, 2) := by decide +kernel
theorem dX6_relay_62 : decode cX6_relay 62 = .ok (.if_icmp .gt 12, 3) := by decide +kernel
theorem dX6_relay_65 : decode cX6_relay 65 = .ok (.aload_n 0, 1) := by decide +kernel
theorem dX6_relay_66 : decode cX6_relay 66 = .ok (.iload_n 2, 1) := by decide +kernel
theorem dX6_relay_67 : decode cX6_relay 67 = .ok (.iload_n 1, 1) := by decide +kernel
theorem dX6_relay_68 : decode cX6_relay 68 = .ok (.invokevirtual 131, 3) := by decide +kernel
theorem dX6_relay_71 : decode cX6_relay 71 = .ok (.ifCond .eq 9, 3) := by decide +kernel
theorem dX6_relay_74 : decode cX6_relay 74 = .ok (.aload_n 0, 1) := by decide +kernel
theorem dX6_relay_75 : decode cX6_relay 75 = .ok (.iconst 2, 1) := by decide +kernel
theorem dX6_relay_76 : decode cX6_relay 76 = .ok (.invokevirtual 88, 3) := by decide +kernel
theorem dX6_relay_79 : decode cX6_relay 79 = .ok (.ireturn, 1) := by decide +kernel
theorem dX6_relay_80 : decode cX6_relay 80 = .ok (.aload_n 0, 1) := by decide +kernel
theorem dX6_relay_81 : decode cX6_relay 81 = .ok (.iload_n 1, 1) := by decide +kernel
theorem dX6_relay_82 : decode cX6_relay 82 = .ok (.bipush 7, 2) := by decide +kernel
theorem dX6_relay_84 : decode cX6_relay 84 = .ok (.iload_n 2, 1) := by decide +kernel
theorem dX6_relay_85 : decode cX6_relay 85 = .ok (.invokevirtual 119, 3) := by decide +kernel
theorem dX6_relay_88 : decode cX6_relay 88 = .ok (.iload_n 3, 1) := by decide +kernel
theorem dX6_relay_89 : decode cX6_relay 89 = .ok (.ireturn, 1) := by decide +kernel
theorem dX6_aim_0 : decode cX6_aim 0 = .ok (.aload_n 0, 1) := by decide +kernel
theorem dX6_aim_1 : decode cX6_aim 1 = .ok (.iconst 0, 1) := by decide +kernel
theorem dX6_aim_2 : decode cX6_aim 2 = .ok (.putfield 38, 3) := by decide +kernel
theorem dX6_aim_5 : decode cX6_aim 5 = .ok (.aload_n 0, 1) := by decide +kernel
theorem dX6_aim_6 : decode cX6_aim 6 = .ok (.iload_n 1, 1) := by decide +kernel
theorem dX6_aim_7 : decode cX6_aim 7 = .ok (.invokevirtual 116, 3) := by decide +kernel
theorem dX6_aim_10 : decode cX6_aim 10 = .ok (.ifCond .eq 11, 3) := by decide +kernel
theorem dX6_aim_13 : decode cX6_aim 13 = .ok (.aload_n 0, 1) := by decide +kernel
theorem dX6_aim_14 : decode cX6_aim 14 = .ok (.iload_n 2, 1) := by decide +kernel
theorem dX6_aim_15 : decode cX6_aim 15 = .ok (.invokevirtual 100, 3) := by decide +kernel
theorem dX6_aim_18 : decode cX6_aim 18 = .ok (.ifCond .ne 9, 3) := by decide +kernel
theorem dX6_aim_21 : decode cX6_aim 21 = .ok (.aload_n 0, 1) := by decide +kernel
theorem dX6_aim_22 : decode cX6_aim 22 = .ok (.iconst 1, 1) := by decide +kernel
theorem dX6_aim_23 : decode cX6_aim 23 = .ok (.invokevirtual 88, 3) := by decide +kernel
theorem dX6_aim_26 : decode cX6_aim 26 = .ok (.ireturn, 1) := by decide +kernel
theorem dX6_aim_27 : decode cX6_aim 27 = .ok (.aload_n 0, 1) := by decide +kernel
theorem dX6_aim_28 : decode cX6_aim 28 = .ok (.iload_n 1, 1) := by decide +kernel
theorem dX6_aim_29 : decode cX6_aim 29 = .ok (.iconst 0, 1) := by decide +kernel
theorem dX6_aim_30 : decode cX6_aim 30 = .ok (.invokevirtual 81, 3) := by decide +kernel
theorem dX6_aim_33 : decode cX6_aim 33 = .ok (.aload_n 0, 1) := by decide +kernel
theorem dX6_aim_34 : decode cX6_aim 34 = .ok (.iload_n 2, 1) := by decide +kernel
theorem dX6_aim_35 : decode cX6_aim 35 = .ok (.iconst 0, 1) := by decide +kernel
theorem dX6_aim_36 : decode cX6_aim 36 = .ok (.invokevirtual 65, 3) := by decide +kernel
theorem dX6_aim_39 : decode cX6_aim 39 = .ok (.invokestatic 125, 3) := by decide +kernel
theorem dX6_aim_42 : decode cX6_aim 42 = .ok (.istore_n 3, 1) := by decide +kernel
theorem dX6_aim_43 : decode cX6_aim 43 = .ok (.aload_n 0, 1) := by decide +kernel
theorem dX6_aim_44 : decode cX6_aim 44 = .ok (.iload_n 1, 1) := by decide +kernel
theorem dX6_aim_45 : decode cX6_aim 45 = .ok (.invokevirtual 128, 3) := by decide +kernel
theorem dX6_aim_48 : decode cX6_aim 48 = .ok (.ifCond .eq 9, 3) := by decide +kernel
theorem dX6_aim_51 : decode cX6_aim 51 = .ok (.iload_n 3, 1) := by decide +kernel
theorem dX6_aim_52 : decode cX6_aim 52 = .ok (.bipush 6, 2) := by decide +kernel
theorem dX6_aim_54 : decode cX6_aim 54 = .ok (.if_icmp .le 9, 3) := by decide +kernel
theorem dX6_aim_57 : decode cX6_aim 57 = .ok (.aload_n 0, 1) := by decide +kernel
theorem dX6_aim_58 : decode cX6_aim 58 = .ok (.iconst 2, 1) := by decide +kernel
theorem dX6_aim_59 : decode cX6_aim 59 = .ok (.invokevirtual 88, 3) := by decide +kernel
theorem dX6_aim_62 : decode cX6_aim 62 = .ok (.ireturn, 1) := by decide +kernel
theorem dX6_aim_63 : decode cX6_aim 63 = .ok (.aload_n 0, 1) := by decide +kernel
theorem dX6_aim_64 : decode cX6_aim 64 = .ok (.iload_n 1, 1) := by decide +kernel
theorem dX6_aim_65 : decode cX6_aim 65 = .ok (.bipush 7, 2) := by decide +kernel
theorem dX6_aim_67 : decode cX6_aim 67 = .ok (.bipush 100, 2) := by decide +kernel
theorem dX6_aim_69 : decode cX6_aim 69 = .ok (.iload_n 2, 1) := by decide +kernel
theorem dX6_aim_70 : decode cX6_aim 70 = .ok (.iadd, 1) := by decide +kernel
theorem dX6_aim_71 : decode cX6_aim 71 = .ok (.invokevirtual 119, 3) := by decide +kernel
theorem dX6_aim_74 : decode cX6_aim 74 = .ok (.iload_n 3, 1) := by decide +kernel
theorem dX6_aim_75 : decode cX6_aim 75 = .ok (.ireturn, 1) := by decide +kernel
theorem dX6_takeUp_0 : decode cX6_takeUp 0 = .ok (.aload_n 0, 1) := by decide +kernel
theorem dX6_takeUp_1 : decode cX6_takeUp 1 = .ok (.aload_n 0, 1) := by decide +kernel
theorem dX6_takeUp_2 : decode cX6_takeUp 2 = .ok (.iload_n 1, 1) := by decide +kernel
theorem dX6_takeUp_3 : decode cX6_takeUp 3 = .ok (.invokevirtual 116, 3) := by decide +kernel
theorem dX6_takeUp_6 : decode cX6_takeUp 6 = .ok (.ifCond .eq 7, 3) := by decide +kernel
theorem dX6_takeUp_9 : decode cX6_takeUp 9 = .ok (.iconst 0, 1) := by decide +kernel
theorem dX6_takeUp_10 : decode cX6_takeUp 10 = .ok (.goto 4, 3) := by decide +kernel
theorem dX6_takeUp_13 : decode cX6_takeUp 13 = .ok (.iconst 1, 1) := by decide +kernel
theorem dX6_takeUp_14 : decode cX6_takeUp 14 = .ok (.putfield 38, 3) := by decide +kernel
theorem dX6_takeUp_17 : decode cX6_takeUp 17 = .ok (.aload_n 0, 1) := by decide +kernel
theorem dX6_takeUp_18 : decode cX6_takeUp 18 = .ok (.getfield 38, 3) := by decide +kernel
theorem dX6_takeUp_21 : decode cX6_takeUp 21 = .ok (.ifCond .eq 5, 3) := by decide +kernel
theorem dX6_takeUp_24 : decode cX6_takeUp 24 = .ok (.iconst 0, 1) := by decide +kernel
theorem dX6_takeUp_25 : decode cX6_takeUp 25 = .ok (.ireturn, 1) := by decide +kernel
theorem dX6_takeUp_26 : decode cX6_takeUp 26 = .ok (.aload_n 0, 1) := by decide +kernel
theorem dX6_takeUp_27 : decode cX6_takeUp 27 = .ok (.iload_n 1, 1) := by decide +kernel
theorem dX6_takeUp_28 : decode cX6_takeUp 28 = .ok (.bipush 7, 2) := by decide +kernel
theorem dX6_takeUp_30 : decode cX6_takeUp 30 = .ok (.invokevirtual 81, 3) := by decide +kernel
theorem dX6_takeUp_33 : decode cX6_takeUp 33 = .ok (.iconst (-1), 1) := by decide +kernel
theorem dX6_takeUp_34 : decode cX6_takeUp 34 = .ok (.if_icmp .eq 7, 3) := by decide +kernel
theorem dX6_takeUp_37 : decode cX6_takeUp 37 = .ok (.iconst 1, 1) := by decide +kernel
theorem dX6_takeUp_38 : decode cX6_takeUp 38 = .ok (.goto 4, 3) := by decide +kernel
theorem dX6_takeUp_41 : decode cX6_takeUp 41 = .ok (.iconst 0, 1) := by decide +kernel
theorem dX6_takeUp_42 : decode cX6_takeUp 42 = .ok (.istore_n 2, 1) := by decide +kernel
theorem dX6_takeUp_43 : decode cX6_takeUp 43 = .ok (.aload_n 0, 1) := by decide +kernel
theorem dX6_takeUp_44 : decode cX6_takeUp 44 = .ok (.iload_n 1, 1) := by decide +kernel
theorem dX6_takeUp_45 : decode cX6_takeUp 45 = .ok (.bipush 7, 2) := by decide +kernel
theorem dX6_takeUp_47 : decode cX6_takeUp 47 = .ok (.iconst (-1), 1) := by decide +kernel
theorem dX6_takeUp_48 : decode cX6_takeUp 48 = .ok (.invokevirtual 119, 3) := by decide +kernel
theorem dX6_takeUp_51 : decode cX6_takeUp 51 = .ok (.iload_n 2, 1) := by decide +kernel
theorem dX6_takeUp_52 : decode cX6_takeUp 52 = .ok (.ireturn, 1) := by decide +kernel
theorem dX6_source_0 : decode cX6_source 0 = .ok (.iconst 0, 1) := by decide +kernel
theorem dX6_source_1 : decode cX6_source 1 = .ok (.istore_n 2, 1) := by decide +kernel
theorem dX6_source_2 : decode cX6_source 2 = .ok (.iload_n 2, 1) := by decide +kernel
theorem dX6_source_3 : decode cX6_source 3 = .ok (.aload_n 0, 1) := by decide +kernel
theorem dX6_source_4 : decode cX6_source 4 = .ok (.getfield 68, 3) := by decide +kernel
theorem dX6_source_7 : decode cX6_source 7 = .ok (.if_icmp .ge 37, 3) := by decide +kernel
theorem dX6_source_10 : decode cX6_source 10 = .ok (.aload_n 0, 1) := by decide +kernel
theorem dX6_source_11 : decode cX6_source 11 = .ok (.iload_n 1, 1) := by decide +kernel
theorem dX6_source_12 : decode cX6_source 12 = .ok (.invokevirtual 128, 3) := by decide +kernel
theorem dX6_source_15 : decode cX6_source 15 = .ok (.ifCond .eq 23, 3) := by decide +kernel
theorem dX6_source_18 : decode cX6_source 18 = .ok (.aload_n 0, 1) := by decide +kernel
theorem dX6_source_19 : decode cX6_source 19 = .ok (.getfield 9, 3) := by decide +kernel
theorem dX6_source_22 : decode cX6_source 22 = .ok (.iload_n 2, 1) := by decide +kernel
theorem dX6_source_23 : decode cX6_source 23 = .ok (.iaload, 1) := by decide +kernel
theorem dX6_source_24 : decode cX6_source 24 = .ok (.aload_n 0, 1) := by decide +kernel
theorem dX6_source_25 : decode cX6_source 25 = .ok (.iload_n 1, 1) := by decide +kernel
theorem dX6_source_26 : decode cX6_source 26 = .ok (.iconst 0, 1) := by decide +kernel
theorem dX6_source_27 : decode cX6_source 27 = .ok (.invokevirtual 81, 3) := by decide +kernel
theorem dX6_source_30 : decode cX6_source 30 = .ok (.invokestatic 110, 3) := by decide +kernel
theorem dX6_source_33 : decode cX6_source 33 = .ok (.ifCond .eq 5, 3) := by decide +kernel
theorem dX6_source_36 : decode cX6_source 36 = .ok (.iload_n 2, 1) := by decide +kernel
theorem dX6_source_37 : decode cX6_source 37 = .ok (.ireturn, 1) := by decide +kernel
theorem dX6_source_38 : decode cX6_source 38 = .ok (.iinc 2 1, 3) := by decide +kernel
theorem dX6_source_41 : decode cX6_source 41 = .ok (.goto (-39), 3) := by decide +kernel
theorem dX6_source_44 : decode cX6_source 44 = .ok (.iconst (-1), 1) := by decide +kernel
theorem dX6_source_45 : decode cX6_source 45 = .ok (.ireturn, 1) := by decide +kernel
theorem dX6_canPump_0 : decode cX6_canPump 0 = .ok (.aload_n 0, 1) := by decide +kernel
theorem dX6_canPump_1 : decode cX6_canPump 1 = .ok (.iload_n 1, 1) := by decide +kernel
theorem dX6_canPump_2 : decode cX6_canPump 2 = .ok (.invokevirtual 128, 3) := by decide +kernel
theorem dX6_canPump_5 : decode cX6_canPump 5 = .ok (.ifCond .eq 33, 3) := by decide +kernel
theorem dX6_canPump_8 : decode cX6_canPump 8 = .ok (.aload_n 0, 1) := by decide +kernel
theorem dX6_canPump_9 : decode cX6_canPump 9 = .ok (.iload_n 1, 1) := by decide +kernel
theorem dX6_canPump_10 : decode cX6_canPump 10 = .ok (.iconst 4, 1) := by decide +kernel
theorem dX6_canPump_11 : decode cX6_canPump 11 = .ok (.invokevirtual 81, 3) := by decide +kernel
theorem dX6_canPump_14 : decode cX6_canPump 14 = .ok (.bipush 20, 2) := by decide +kernel
theorem dX6_canPump_16 : decode cX6_canPump 16 = .ok (.if_icmp .lt 22, 3) := by decide +kernel
theorem dX6_canPump_19 : decode cX6_canPump 19 = .ok (.aload_n 0, 1) := by decide +kernel
theorem dX6_canPump_20 : decode cX6_canPump 20 = .ok (.iload_n 1, 1) := by decide +kernel
theorem dX6_canPump_21 : decode cX6_canPump 21 = .ok (.iconst 2, 1) := by decide +kernel
theorem dX6_canPump_22 : decode cX6_canPump 22 = .ok (.invokevirtual 81, 3) := by decide +kernel
theorem dX6_canPump_25 : decode cX6_canPump 25 = .ok (.aload_n 0, 1) := by decide +kernel
theorem dX6_canPump_26 : decode cX6_canPump 26 = .ok (.iload_n 1, 1) := by decide +kernel
theorem dX6_canPump_27 : decode cX6_canPump 27 = .ok (.iconst 4, 1) := by decide +kernel
theorem dX6_canPump_28 : decode cX6_canPump 28 = .ok (.invokevirtual 81, 3) := by decide +kernel
theorem dX6_canPump_31 : decode cX6_canPump 31 = .ok (.imul, 1) := by decide +kernel
theorem dX6_canPump_32 : decode cX6_canPump 32 = .ok (.bipush 20, 2) := by decide +kernel
theorem dX6_canPump_34 : decode cX6_canPump 34 = .ok (.idiv, 1) := by decide +kernel
theorem dX6_canPump_35 : decode cX6_canPump 35 = .ok (.goto 4, 3) := by decide +kernel
theorem dX6_canPump_38 : decode cX6_canPump 38 = .ok (.iconst 0, 1) := by decide +kernel
theorem dX6_canPump_39 : decode cX6_canPump 39 = .ok (.ireturn, 1) := by decide +kernel
theorem dX6_engineTold_0 : decode cX6_engineTold 0 = .ok (.iload_n 2, 1) := by decide +kernel
theorem dX6_engineTold_1 : decode cX6_engineTold 1 = .ok (.tableswitch 59 6 9 #[31, 39, 45, 53], 31) := by decide +kernel
theorem dX6_engineTold_32 : decode cX6_engineTold 32 = .ok (.aload_n 0, 1) := by decide +kernel
theorem dX6_engineTold_33 : decode cX6_engineTold 33 = .ok (.iload_n 1, 1) := by decide +kernel
theorem dX6_engineTold_34 : decode cX6_engineTold 34 = .ok (.bipush 7, 2) := by decide +kernel
theorem dX6_engineTold_36 : decode cX6_engineTold 36 = .ok (.invokevirtual 81, 3) := by decide +kernel
theorem dX6_engineTold_39 : decode cX6_engineTold 39 = .ok (.ireturn, 1) := by decide +kernel
theorem dX6_engineTold_40 : decode cX6_engineTold 40 = .ok (.aload_n 0, 1) := by decide +kernel
theorem dX6_engineTold_41 : decode cX6_engineTold 41 = .ok (.iload_n 1, 1) := by decide +kernel
theorem dX6_engineTold_42 : decode cX6_engineTold 42 = .ok (.invokevirtual 134, 3) := by decide +kernel
theorem dX6_engineTold_45 : decode cX6_engineTold 45 = .ok (.ireturn, 1) := by decide +kernel
theorem dX6_engineTold_46 : decode cX6_engineTold 46 = .ok (.aload_n 0, 1) := by decide +kernel
theorem dX6_engineTold_47 : decode cX6_engineTold 47 = .ok (.iload_n 1, 1) := by decide +kernel
theorem dX6_engineTold_48 : decode cX6_engineTold 48 = .ok (.bipush 8, 2) := by decide +kernel
theorem dX6_engineTold_50 : decode cX6_engineTold 50 = .ok (.invokevirtual 81, 3) := by decide +kernel
theorem dX6_engineTold_53 : decode cX6_engineTold 53 = .ok (.ireturn, 1) := by decide +kernel
theorem dX6_engineTold_54 : decode cX6_engineTold 54 = .ok (.aload_n 0, 1) := by decide +kernel
theorem dX6_engineTold_55 : decode cX6_engineTold 55 = .ok (.iload_n 1, 1) := by decide +kernel
theorem dX6_engineTold_56 : decode cX6_engineTold 56 = .ok (.invokevirtual 137, 3) := by decide +kernel
theorem dX6_engineTold_59 : decode cX6_engineTold 59 = .ok (.ireturn, 1) := by decide +kernel
theorem dX6_engineTold_60 : decode cX6_engineTold 60 = .ok (.aload_n 0, 1) := by decide +kernel
theorem dX6_engineTold_61 : decode cX6_engineTold 61 = .ok (.iload_n 1, 1) := by decide +kernel
theorem dX6_engineTold_62 : decode cX6_engineTold 62 = .ok (.iload_n 2, 1) := by decide +kernel
theorem dX6_engineTold_63 : decode cX6_engineTold 63 = .ok (.invokevirtual 81, 3) := by decide +kernel
theorem dX6_engineTold_66 : decode cX6_engineTold 66 = .ok (.ireturn, 1) := by decide +kernel
theorem dX6_engine_0 : decode cX6_engine 0 = .ok (.aload_n 0, 1) := by decide +kernel
theorem dX6_engine_1 : decode cX6_engine 1 = .ok (.iconst 0, 1) := by decide +kernel
theorem dX6_engine_2 : decode cX6_engine 2 = .ok (.putfield 38, 3) := by decide +kernel
theorem dX6_engine_5 : decode cX6_engine 5 = .ok (.aload_n 0, 1) := by decide +kernel
theorem dX6_engine_6 : decode cX6_engine 6 = .ok (.iload_n 1, 1) := by decide +kernel
theorem dX6_engine_7 : decode cX6_engine 7 = .ok (.invokevirtual 116, 3) := by decide +kernel
theorem dX6_engine_10 : decode cX6_engine 10 = .ok (.ifCond .eq 22, 3) := by decide +kernel
theorem dX6_engine_13 : decode cX6_engine 13 = .ok (.iload_n 2, 1) := by decide +kernel
theorem dX6_engine_14 : decode cX6_engine 14 = .ok (.iconst 0, 1) := by decide +kernel
theorem dX6_engine_15 : decode cX6_engine 15 = .ok (.bipush 9, 2) := by decide +kernel
theorem dX6_engine_17 : decode cX6_engine 17 = .ok (.invokestatic 42, 3) := by decide +kernel
theorem dX6_engine_20 : decode cX6_engine 20 = .ok (.ifCond .eq 12, 3) := by decide +kernel
theorem dX6_engine_23 : decode cX6_engine 23 = .ok (.aload_n 0, 1) := by decide +kernel
theorem dX6_engine_24 : decode cX6_engine 24 = .ok (.iload_n 1, 1) := by decide +kernel
theorem dX6_engine_25 : decode cX6_engine 25 = .ok (.iload_n 2, 1) := by decide +kernel
theorem dX6_engine_26 : decode cX6_engine 26 = .ok (.invokevirtual 140, 3) := by decide +kernel
theorem dX6_engine_29 : decode cX6_engine 29 = .ok (.goto 8, 3) := by decide +kernel
theorem dX6_engine_32 : decode cX6_engine 32 = .ok (.aload_n 0, 1) := by decide +kernel
theorem dX6_engine_33 : decode cX6_engine 33 = .ok (.iconst 1, 1) := by decide +kernel
theorem dX6_engine_34 : decode cX6_engine 34 = .ok (.invokevirtual 88, 3) := by decide +kernel
theorem dX6_engine_37 : decode cX6_engine 37 = .ok (.ireturn, 1) := by decide +kernel
theorem dX6_pond_0 : decode cX6_pond 0 = .ok (.aload_n 0, 1) := by decide +kernel
theorem dX6_pond_1 : decode cX6_pond 1 = .ok (.iconst 0, 1) := by decide +kernel
theorem dX6_pond_2 : decode cX6_pond 2 = .ok (.putfield 38, 3) := by decide +kernel
theorem dX6_pond_5 : decode cX6_pond 5 = .ok (.iload_n 1, 1) := by decide +kernel
theorem dX6_pond_6 : decode cX6_pond 6 = .ok (.iconst 0, 1) := by decide +kernel
theorem dX6_pond_7 : decode cX6_pond 7 = .ok (.aload_n 0, 1) := by decide +kernel
theorem dX6_pond_8 : decode cX6_pond 8 = .ok (.getfield 68, 3) := by decide +kernel
theorem dX6_pond_11 : decode cX6_pond 11 = .ok (.iconst 1, 1) := by decide +kernel
theorem dX6_pond_12 : decode cX6_pond 12 = .ok (.isub, 1) := by decide +kernel
theorem dX6_pond_13 : decode cX6_pond 13 = .ok (.invokestatic 42, 3) := by decide +kernel
theorem dX6_pond_16 : decode cX6_pond 16 = .ok (.ifCond .eq 12, 3) := by decide +kernel
theorem dX6_pond_19 : decode cX6_pond 19 = .ok (.aload_n 0, 1) := by decide +kernel
theorem dX6_pond_20 : decode cX6_pond 20 = .ok (.getfield 13, 3) := by decide +kernel
theorem dX6_pond_23 : decode cX6_pond 23 = .ok (.iload_n 1, 1) := by decide +kernel
theorem dX6_pond_24 : decode cX6_pond 24 = .ok (.iaload, 1) := by decide +kernel
theorem dX6_pond_25 : decode cX6_pond 25 = .ok (.goto 8, 3) := by decide +kernel
theorem dX6_pond_28 : decode cX6_pond 28 = .ok (.aload_n 0, 1) := by decide +kernel
theorem dX6_pond_29 : decode cX6_pond 29 = .ok (.iconst 1, 1) := by decide +kernel
theorem dX6_pond_30 : decode cX6_pond 30 = .ok (.invokevirtual 88, 3) := by decide +kernel
theorem dX6_pond_33 : decode cX6_pond 33 = .ok (.ireturn, 1) := by decide +kernel
theorem dX6_next_0 : decode cX6_next 0 = .ok (.iconst 0, 1) := by decide +kernel
theorem dX6_next_1 : decode cX6_next 1 = .ok (.istore_n 1, 1) := by decide +kernel
theorem dX6_next_2 : decode cX6_next 2 = .ok (.iload_n 1, 1) := by decide +kernel
theorem dX6_next_3 : decode cX6_next 3 = .ok (.aload_n 0, 1) := by decide +kernel
theorem dX6_next_4 : decode cX6_next 4 = .ok (.getfield 62, 3) := by decide +kernel
theorem dX6_next_7 : decode cX6_next 7 = .ok (.if_icmp .ge 76, 3) := by decide +kernel
theorem dX6_next_10 : decode cX6_next 10 = .ok (.aload_n 0, 1) := by decide +kernel
theorem dX6_next_11 : decode cX6_next 11 = .ok (.getfield 28, 3) := by decide +kernel
theorem dX6_next_14 : decode cX6_next 14 = .ok (.iload_n 1, 1) := by decide +kernel
theorem dX6_next_15 : decode cX6_next 15 = .ok (.baload, 1) := by decide +kernel
theorem dX6_next_16 : decode cX6_next 16 = .ok (.ifCond .ne 7, 3) := by decide +kernel
theorem dX6_next_19 : decode cX6_next 19 = .ok (.iconst 1, 1) := by decide +kernel
theorem dX6_next_20 : decode cX6_next 20 = .ok (.goto 4, 3) := by decide +kernel
theorem dX6_next_23 : decode cX6_next 23 = .ok (.iconst 0, 1) := by decide +kernel
theorem dX6_next_24 : decode cX6_next 24 = .ok (.istore_n 2, 1) := by decide +kernel
theorem dX6_next_25 : decode cX6_next 25 = .ok (.iconst 0, 1) := by decide +kernel
theorem dX6_next_26 : decode cX6_next 26 = .ok (.istore_n 3, 1) := by decide +kernel
theorem dX6_next_27 : decode cX6_next 27 = .ok (.iload_n 3, 1) := by decide +kernel
theorem dX6_next_28 : decode cX6_next 28 = .ok (.aload_n 0, 1) := by decide +kernel
theorem dX6_next_29 : decode cX6_next 29 = .ok (.getfield 62, 3) := by decide +kernel
theorem dX6_next_32 : decode cX6_next 32 = .ok (.if_icmp .ge 39, 3) := by decide +kernel
theorem dX6_next_35 : decode cX6_next 35 = .ok (.iload_n 2, 1) := by decide +kernel
theorem dX6_next_36 : decode cX6_next 36 = .ok (.ifCond .eq 27, 3) := by decide +kernel
theorem dX6_next_39 : decode cX6_next 39 = .ok (.aload_n 0, 1) := by decide +kernel
theorem dX6_next_40 : decode cX6_next 40 = .ok (.getfield 28, 3) := by decide +kernel
theorem dX6_next_43 : decode cX6_next 43 = .ok (.iload_n 3, 1) := by decide +kernel
theorem dX6_next_44 : decode cX6_next 44 = .ok (.baload, 1) := by decide +kernel
theorem dX6_next_45 : decode cX6_next 45 = .ok (.ifCond .ne 14, 3) := by decide +kernel
theorem dX6_next_48 : decode cX6_next 48 = .ok (.aload_n 0, 1) := by decide +kernel
theorem dX6_next_49 : decode cX6_next 49 = .ok (.iload_n 3, 1) := by decide +kernel
theorem dX6_next_50 : decode cX6_next 50 = .ok (.bipush 7, 2) := by decide +kernel
theorem dX6_next_52 : decode cX6_next 52 = .ok (.invokevirtual 81, 3) := by decide +kernel
theorem dX6_next_55 : decode cX6_next 55 = .ok (.iload_n 1, 1) := by decide +kernel
theorem dX6_next_56 : decode cX6_next 56 = .ok (.if_icmp .eq 7, 3) := by decide +kernel
theorem dX6_next_59 : decode cX6_next 59 = .ok (.iconst 1, 1) := by decide +kernel
theorem dX6_next_60 : decode cX6_next 60 = .ok (.goto 4, 3) := by decide +kernel
theorem dX6_next_63 : decode cX6_next 63 = .ok (.iconst 0, 1) := by decide +kernel
theorem dX6_next_64 : decode cX6_next 64 = .ok (.istore_n 2, 1) := by decide +kernel
theorem dX6_next_65 : decode cX6_next 65 = .ok (.iinc 3 1, 3) := by decide +kernel
theorem dX6_next_68 : decode cX6_next 68 = .ok (.goto (-41), 3) := by decide +kernel
theorem dX6_next_71 : decode cX6_next 71 = .ok (.iload_n 2, 1) := by decide +kernel
theorem dX6_next_72 : decode cX6_next 72 = .ok (.ifCond .eq 5, 3) := by decide +kernel
theorem dX6_next_75 : decode cX6_next 75 = .ok (.iload_n 1, 1) := by decide +kernel
theorem dX6_next_76 : decode cX6_next 76 = .ok (.ireturn, 1) := by decide +kernel
theorem dX6_next_77 : decode cX6_next 77 = .ok (.iinc 1 1, 3) := by decide +kernel
theorem dX6_next_80 : decode cX6_next 80 = .ok (.goto (-78), 3) := by decide +kernel
theorem dX6_next_83 : decode cX6_next 83 = .ok (.iconst (-1), 1) := by decide +kernel
theorem dX6_next_84 : decode cX6_next 84 = .ok (.ireturn, 1) := by decide +kernel
theorem dX6_pump_0 : decode cX6_pump 0 = .ok (.aload_n 0, 1) := by decide +kernel
theorem dX6_pump_1 : decode cX6_pump 1 = .ok (.iload_n 1, 1) := by decide +kernel
theorem dX6_pump_2 : decode cX6_pump 2 = .ok (.bipush 7, 2) := by decide +kernel
theorem dX6_pump_4 : decode cX6_pump 4 = .ok (.invokevirtual 81, 3) := by decide +kernel
theorem dX6_pump_7 : decode cX6_pump 7 = .ok (.istore_n 2, 1) := by decide +kernel
theorem dX6_pump_8 : decode cX6_pump 8 = .ok (.aload_n 0, 1) := by decide +kernel
theorem dX6_pump_9 : decode cX6_pump 9 = .ok (.iload_n 1, 1) := by decide +kernel
theorem dX6_pump_10 : decode cX6_pump 10 = .ok (.bipush 8, 2) := by decide +kernel
theorem dX6_pump_12 : decode cX6_pump 12 = .ok (.iconst 0, 1) := by decide +kernel
theorem dX6_pump_13 : decode cX6_pump 13 = .ok (.invokevirtual 119, 3) := by decide +kernel
theorem dX6_pump_16 : decode cX6_pump 16 = .ok (.iload_n 2, 1) := by decide +kernel
theorem dX6_pump_17 : decode cX6_pump 17 = .ok (.iconst (-1), 1) := by decide +kernel
theorem dX6_pump_18 : decode cX6_pump 18 = .ok (.if_icmp .ne 4, 3) := by decide +kernel
theorem dX6_pump_21 : decode cX6_pump 21 = .ok (.return_, 1) := by decide +kernel
theorem dX6_pump_22 : decode cX6_pump 22 = .ok (.aload_n 0, 1) := by decide +kernel
theorem dX6_pump_23 : decode cX6_pump 23 = .ok (.iload_n 1, 1) := by decide +kernel
theorem dX6_pump_24 : decode cX6_pump 24 = .ok (.invokevirtual 137, 3) := by decide +kernel
theorem dX6_pump_27 : decode cX6_pump 27 = .ok (.istore_n 3, 1) := by decide +kernel
theorem dX6_pump_28 : decode cX6_pump 28 = .ok (.aload_n 0, 1) := by decide +kernel
theorem dX6_pump_29 : decode cX6_pump 29 = .ok (.iload_n 1, 1) := by decide +kernel
theorem dX6_pump_30 : decode cX6_pump 30 = .ok (.invokevirtual 134, 3) := by decide +kernel
theorem dX6_pump_33 : decode cX6_pump 33 = .ok (.istore 4, 2) := by decide +kernel
theorem dX6_pump_35 : decode cX6_pump 35 = .ok (.iload 4, 2) := by decide +kernel
theorem dX6_pump_37 : decode cX6_pump 37 = .ok (.iconst (-1), 1) := by decide +kernel
theorem dX6_pump_38 : decode cX6_pump 38 = .ok (.if_icmp .ne 7, 3) := by decide +kernel
theorem dX6_pump_41 : decode cX6_pump 41 = .ok (.iconst 0, 1) := by decide +kernel
theorem dX6_pump_42 : decode cX6_pump 42 = .ok (.goto 25, 3) := by decide +kernel
theorem dX6_pump_45 : decode cX6_pump 45 = .ok (.aload_n 0, 1) := by decide +kernel
theorem dX6_pump_46 : decode cX6_pump 46 = .ok (.getfield 13, 3) := by decide +kernel
theorem dX6_pump_49 : decode cX6_pump 49 = .ok (.iload 4, 2) := by decide +kernel
theorem dX6_pump_51 : decode cX6_pump 51 = .ok (.iaload, 1) := by decide +kernel
theorem dX6_pump_52 : decode cX6_pump 52 = .ok (.iconst 0, 1) := by decide +kernel
theorem dX6_pump_53 : decode cX6_pump 53 = .ok (.iload_n 3, 1) := by decide +kernel
theorem dX6_pump_54 : decode cX6_pump 54 = .ok (.aload_n 0, 1) := by decide +kernel
theorem dX6_pump_55 : decode cX6_pump 55 = .ok (.getfield 25, 3) := by decide +kernel
theorem dX6_pump_58 : decode cX6_pump 58 = .ok (.iload_n 1, 1) := by decide +kernel
theorem dX6_pump_59 : decode cX6_pump 59 = .ok (.iaload, 1) := by decide +kernel
theorem dX6_pump_60 : decode cX6_pump 60 = .ok (.isub, 1) := by decide +kernel
theorem dX6_pump_61 : decode cX6_pump 61 = .ok (.invokestatic 143, 3) := by decide +kernel
theorem dX6_pump_64 : decode cX6_pump 64 = .ok (.invokestatic 146, 3) := by decide +kernel
theorem dX6_pump_67 : decode cX6_pump 67 = .ok (.istore 5, 2) := by decide +kernel
theorem dX6_pump_69 : decode cX6_pump 69 = .ok (.iload 4, 2) := by decide +kernel
theorem dX6_pump_71 : decode cX6_pump 71 = .ok (.iconst (-1), 1) := by decide +kernel
theorem dX6_pump_72 : decode cX6_pump 72 = .ok (.if_icmp .eq 15, 3) := by decide +kernel
theorem dX6_pump_75 : decode cX6_pump 75 = .ok (.aload_n 0, 1) := by decide +kernel
theorem dX6_pump_76 : decode cX6_pump 76 = .ok (.getfield 13, 3) := by decide +kernel
theorem dX6_pump_79 : decode cX6_pump 79 = .ok (.iload 4, 2) := by decide +kernel
theorem dX6_pump_81 : decode cX6_pump 81 = .ok (.dup2, 1) := by decide +kernel
theorem dX6_pump_82 : decode cX6_pump 82 = .ok (.iaload, 1) := by decide +kernel
theorem dX6_pump_83 : decode cX6_pump 83 = .ok (.iload 5, 2) := by decide +kernel
theorem dX6_pump_85 : decode cX6_pump 85 = .ok (.isub, 1) := by decide +kernel
theorem dX6_pump_86 : decode cX6_pump 86 = .ok (.iastore, 1) := by decide +kernel
theorem dX6_pump_87 : decode cX6_pump 87 = .ok (.iload_n 3, 1) := by decide +kernel
theorem dX6_pump_88 : decode cX6_pump 88 = .ok (.aload_n 0, 1) := by decide +kernel
theorem dX6_pump_89 : decode cX6_pump 89 = .ok (.getfield 25, 3) := by decide +kernel
theorem dX6_pump_92 : decode cX6_pump 92 = .ok (.iload_n 1, 1) := by decide +kernel
theorem dX6_pump_93 : decode cX6_pump 93 = .ok (.iaload, 1) := by decide +kernel
theorem dX6_pump_94 : decode cX6_pump 94 = .ok (.iload 5, 2) := by decide +kernel
theorem dX6_pump_96 : decode cX6_pump 96 = .ok (.iadd, 1) := by decide +kernel
theorem dX6_pump_97 : decode cX6_pump 97 = .ok (.invokestatic 146, 3) := by decide +kernel
theorem dX6_pump_100 : decode cX6_pump 100 = .ok (.istore 6, 2) := by decide +kernel
theorem dX6_pump_102 : decode cX6_pump 102 = .ok (.iload_n 2, 1) := by decide +kernel
theorem dX6_pump_103 : decode cX6_pump 103 = .ok (.bipush 100, 2) := by decide +kernel
theorem dX6_pump_105 : decode cX6_pump 105 = .ok (.if_icmp .lt 7, 3) := by decide +kernel
theorem dX6_pump_108 : decode cX6_pump 108 = .ok (.iconst 1, 1) := by decide +kernel
theorem dX6_pump_109 : decode cX6_pump 109 = .ok (.goto 4, 3) := by decide +kernel
theorem dX6_pump_112 : decode cX6_pump 112 = .ok (.iconst 0, 1) := by decide +kernel
theorem dX6_pump_113 : decode cX6_pump 113 = .ok (.istore 7, 2) := by decide +kernel
theorem dX6_pump_115 : decode cX6_pump 115 = .ok (.aload_n 0, 1) := by decide +kernel
theorem dX6_pump_116 : decode cX6_pump 116 = .ok (.iload_n 1, 1) := by decide +kernel
theorem dX6_pump_117 : decode cX6_pump 117 = .ok (.iconst 0, 1) := by decide +kernel
theorem dX6_pump_118 : decode cX6_pump 118 = .ok (.invokevirtual 81, 3) := by decide +kernel
theorem dX6_pump_121 : decode cX6_pump 121 = .ok (.iload 7, 2) := by decide +kernel
theorem dX6_pump_123 : decode cX6_pump 123 = .ok (.ifCond .eq 15, 3) := by decide +kernel
theorem dX6_pump_126 : decode cX6_pump 126 = .ok (.aload_n 0, 1) := by decide +kernel
theorem dX6_pump_127 : decode cX6_pump 127 = .ok (.iload_n 2, 1) := by decide +kernel
theorem dX6_pump_128 : decode cX6_pump 128 = .ok (.bipush 100, 2) := by decide +kernel
theorem dX6_pump_130 : decode cX6_pump 130 = .ok (.isub, 1) := by decide +kernel
theorem dX6_pump_131 : decode cX6_pump 131 = .ok (.iconst 0, 1) := by decide +kernel
theorem dX6_pump_132 : decode cX6_pump 132 = .ok (.invokevirtual 65, 3) := by decide +kernel
theorem dX6_pump_135 : decode cX6_pump 135 = .ok (.goto 9, 3) := by decide +kernel
theorem dX6_pump_138 : decode cX6_pump 138 = .ok (.aload_n 0, 1) := by decide +kernel
theorem dX6_pump_139 : decode cX6_pump 139 = .ok (.iload_n 2, 1) := by decide +kernel
theorem dX6_pump_140 : decode cX6_pump 140 = .ok (.iconst 0, 1) := by decide +kernel
theorem dX6_pump_141 : decode cX6_pump 141 = .ok (.invokevirtual 81, 3) := by decide +kernel
theorem dX6_pump_144 : decode cX6_pump 144 = .ok (.invokestatic 125, 3) := by decide +kernel
theorem dX6_pump_147 : decode cX6_pump 147 = .ok (.istore 8, 2) := by decide +kernel
theorem dX6_pump_149 : decode cX6_pump 149 = .ok (.iload 6, 2) := by decide +kernel
theorem dX6_pump_151 : decode cX6_pump 151 = .ok (.iload 6, 2) := by decide +kernel
theorem dX6_pump_153 : decode cX6_pump 153 = .ok (.iload 8, 2) := by decide +kernel
theorem dX6_pump_155 : decode cX6_pump 155 = .ok (.iconst 2, 1) := by decide +kernel
theorem dX6_pump_156 : decode cX6_pump 156 = .ok (.idiv, 1) := by decide +kernel
theorem dX6_pump_157 : decode cX6_pump 157 = .ok (.imul, 1) := by decide +kernel
theorem dX6_pump_158 : decode cX6_pump 158 = .ok (.bipush 10, 2) := by decide +kernel
theorem dX6_pump_160 : decode cX6_pump 160 = .ok (.idiv, 1) := by decide +kernel
theorem dX6_pump_161 : decode cX6_pump 161 = .ok (.isub, 1) := by decide +kernel
theorem dX6_pump_162 : decode cX6_pump 162 = .ok (.istore 9, 2) := by decide +kernel
theorem dX6_pump_164 : decode cX6_pump 164 = .ok (.aload_n 0, 1) := by decide +kernel
theorem dX6_pump_165 : decode cX6_pump 165 = .ok (.iload_n 1, 1) := by decide +kernel
theorem dX6_pump_166 : decode cX6_pump 166 = .ok (.bipush 8, 2) := by decide +kernel
theorem dX6_pump_168 : decode cX6_pump 168 = .ok (.iload 6, 2) := by decide +kernel
theorem dX6_pump_170 : decode cX6_pump 170 = .ok (.invokevirtual 119, 3) := by decide +kernel
theorem dX6_pump_173 : decode cX6_pump 173 = .ok (.iload 7, 2) := by decide +kernel
theorem dX6_pump_175 : decode cX6_pump 175 = .ok (.ifCond .eq 27, 3) := by decide +kernel
theorem dX6_pump_178 : decode cX6_pump 178 = .ok (.aload_n 0, 1) := by decide +kernel
theorem dX6_pump_179 : decode cX6_pump 179 = .ok (.iload_n 2, 1) := by decide +kernel
theorem dX6_pump_180 : decode cX6_pump 180 = .ok (.bipush 100, 2) := by decide +kernel
theorem dX6_pump_182 : decode cX6_pump 182 = .ok (.isub, 1) := by decide +kernel
theorem dX6_pump_183 : decode cX6_pump 183 = .ok (.iconst 5, 1) := by decide +kernel
theorem dX6_pump_184 : decode cX6_pump 184 = .ok (.aload_n 0, 1) := by decide +kernel
theorem dX6_pump_185 : decode cX6_pump 185 = .ok (.iload_n 2, 1) := by decide +kernel
theorem dX6_pump_186 : decode cX6_pump 186 = .ok (.bipush 100, 2) := by decide +kernel
theorem dX6_pump_188 : decode cX6_pump 188 = .ok (.isub, 1) := by decide +kernel
theorem dX6_pump_189 : decode cX6_pump 189 = .ok (.iconst 5, 1) := by decide +kernel
theorem dX6_pump_190 : decode cX6_pump 190 = .ok (.invokevirtual 65, 3) := by decide +kernel
theorem dX6_pump_193 : decode cX6_pump 193 = .ok (.iload 9, 2) := by decide +kernel
theorem dX6_pump_195 : decode cX6_pump 195 = .ok (.iadd, 1) := by decide +kernel
theorem dX6_pump_196 : decode cX6_pump 196 = .ok (.invokevirtual 103, 3) := by decide +kernel
theorem dX6_pump_199 : decode cX6_pump 199 = .ok (.goto 14, 3) := by decide +kernel
theorem dX6_pump_202 : decode cX6_pump 202 = .ok (.aload_n 0, 1) := by decide +kernel
theorem dX6_pump_203 : decode cX6_pump 203 = .ok (.getfield 25, 3) := by decide +kernel
theorem dX6_pump_206 : decode cX6_pump 206 = .ok (.iload_n 2, 1) := by decide +kernel
theorem dX6_pump_207 : decode cX6_pump 207 = .ok (.dup2, 1) := by decide +kernel
theorem dX6_pump_208 : decode cX6_pump 208 = .ok (.iaload, 1) := by decide +kernel
theorem dX6_pump_209 : decode cX6_pump 209 = .ok (.iload 9, 2) := by decide +kernel
theorem dX6_pump_211 : decode cX6_pump 211 = .ok (.iadd, 1) := by decide +kernel
theorem dX6_pump_212 : decode cX6_pump 212 = .ok (.iastore, 1) := by decide +kernel
theorem dX6_pump_213 : decode cX6_pump 213 = .ok (.return_, 1) := by decide +kernel
theorem dX6_pumpAll_0 : decode cX6_pumpAll 0 = .ok (.iconst 0, 1) := by decide +kernel
theorem dX6_pumpAll_1 : decode cX6_pumpAll 1 = .ok (.istore_n 1, 1) := by decide +kernel
theorem dX6_pumpAll_2 : decode cX6_pumpAll 2 = .ok (.iload_n 1, 1) := by decide +kernel
theorem dX6_pumpAll_3 : decode cX6_pumpAll 3 = .ok (.aload_n 0, 1) := by decide +kernel
theorem dX6_pumpAll_4 : decode cX6_pumpAll 4 = .ok (.getfield 59, 3) := by decide +kernel
theorem dX6_pumpAll_7 : decode cX6_pumpAll 7 = .ok (.if_icmp .ge 16, 3) := by decide +kernel
theorem dX6_pumpAll_10 : decode cX6_pumpAll 10 = .ok (.aload_n 0, 1) := by decide +kernel
theorem dX6_pumpAll_11 : decode cX6_pumpAll 11 = .ok (.iload_n 1, 1) := by decide +kernel
theorem dX6_pumpAll_12 : decode cX6_pumpAll 12 = .ok (.iconst 5, 1) := by decide +kernel
theorem dX6_pumpAll_13 : decode cX6_pumpAll 13 = .ok (.iconst 0, 1) := by decide +kernel
theorem dX6_pumpAll_14 : decode cX6_pumpAll 14 = .ok (.invokevirtual 103, 3) := by decide +kernel
theorem dX6_pumpAll_17 : decode cX6_pumpAll 17 = .ok (.iinc 1 1, 3) := by decide +kernel
theorem dX6_pumpAll_20 : decode cX6_pumpAll 20 = .ok (.goto (-18), 3) := by decide +kernel
theorem dX6_pumpAll_23 : decode cX6_pumpAll 23 = .ok (.iconst 0, 1) := by decide +kernel
theorem dX6_pumpAll_24 : decode cX6_pumpAll 24 = .ok (.istore_n 1, 1) := by decide +kernel
theorem dX6_pumpAll_25 : decode cX6_pumpAll 25 = .ok (.iload_n 1, 1) := by decide +kernel
theorem dX6_pumpAll_26 : decode cX6_pumpAll 26 = .ok (.aload_n 0, 1) := by decide +kernel
theorem dX6_pumpAll_27 : decode cX6_pumpAll 27 = .ok (.getfield 62, 3) := by decide +kernel
theorem dX6_pumpAll_30 : decode cX6_pumpAll 30 = .ok (.if_icmp .ge 23, 3) := by decide +kernel
theorem dX6_pumpAll_33 : decode cX6_pumpAll 33 = .ok (.aload_n 0, 1) := by decide +kernel
theorem dX6_pumpAll_34 : decode cX6_pumpAll 34 = .ok (.getfield 25, 3) := by decide +kernel
theorem dX6_pumpAll_37 : decode cX6_pumpAll 37 = .ok (.iload_n 1, 1) := by decide +kernel
theorem dX6_pumpAll_38 : decode cX6_pumpAll 38 = .ok (.iconst 0, 1) := by decide +kernel
theorem dX6_pumpAll_39 : decode cX6_pumpAll 39 = .ok (.iastore, 1) := by decide +kernel
theorem dX6_pumpAll_40 : decode cX6_pumpAll 40 = .ok (.aload_n 0, 1) := by decide +kernel
theorem dX6_pumpAll_41 : decode cX6_pumpAll 41 = .ok (.getfield 28, 3) := by decide +kernel
theorem dX6_pumpAll_44 : decode cX6_pumpAll 44 = .ok (.iload_n 1, 1) := by decide +kernel
theorem dX6_pumpAll_45 : decode cX6_pumpAll 45 = .ok (.iconst 0, 1) := by decide +kernel
theorem dX6_pumpAll_46 : decode cX6_pumpAll 46 = .ok (.bastore, 1) := by decide +kernel
theorem dX6_pumpAll_47 : decode cX6_pumpAll 47 = .ok (.iinc 1 1, 3) := by decide +kernel
theorem dX6_pumpAll_50 : decode cX6_pumpAll 50 = .ok (.goto (-25), 3) := by decide +kernel
theorem dX6_pumpAll_53 : decode cX6_pumpAll 53 = .ok (.aload_n 0, 1) := by decide +kernel
theorem dX6_pumpAll_54 : decode cX6_pumpAll 54 = .ok (.invokevirtual 149, 3) := by decide +kernel
theorem dX6_pumpAll_57 : decode cX6_pumpAll 57 = .ok (.istore_n 1, 1) := by decide +kernel
theorem dX6_pumpAll_58 : decode cX6_pumpAll 58 = .ok (.iload_n 1, 1) := by decide +kernel
theorem dX6_pumpAll_59 : decode cX6_pumpAll 59 = .ok (.iconst (-1), 1) := by decide +kernel
theorem dX6_pumpAll_60 : decode cX6_pumpAll 60 = .ok (.if_icmp .eq 23, 3) := by decide +kernel
theorem dX6_pumpAll_63 : decode cX6_pumpAll 63 = .ok (.aload_n 0, 1) := by decide +kernel
theorem dX6_pumpAll_64 : decode cX6_pumpAll 64 = .ok (.iload_n 1, 1) := by decide +kernel
theorem dX6_pumpAll_65 : decode cX6_pumpAll 65 = .ok (.invokevirtual 153, 3) := by decide +kernel
theorem dX6_pumpAll_68 : decode cX6_pumpAll 68 = .ok (.aload_n 0, 1) := by decide +kernel
theorem dX6_pumpAll_69 : decode cX6_pumpAll 69 = .ok (.getfield 28, 3) := by decide +kernel
theorem dX6_pumpAll_72 : decode cX6_pumpAll 72 = .ok (.iload_n 1, 1) := by decide +kernel
theorem dX6_pumpAll_73 : decode cX6_pumpAll 73 = .ok (.iconst 1, 1) := by decide +kernel
theorem dX6_pumpAll_74 : decode cX6_pumpAll 74 = .ok (.bastore, 1) := by decide +kernel
theorem dX6_pumpAll_75 : decode cX6_pumpAll 75 = .ok (.aload_n 0, 1) := by decide +kernel
theorem dX6_pumpAll_76 : decode cX6_pumpAll 76 = .ok (.invokevirtual 149, 3) := by decide +kernel
theorem dX6_pumpAll_79 : decode cX6_pumpAll 79 = .ok (.istore_n 1, 1) := by decide +kernel
theorem dX6_pumpAll_80 : decode cX6_pumpAll 80 = .ok (.goto (-22), 3) := by decide +kernel
theorem dX6_pumpAll_83 : decode cX6_pumpAll 83 = .ok (.iconst 0, 1) := by decide +kernel
theorem dX6_pumpAll_84 : decode cX6_pumpAll 84 = .ok (.istore_n 1, 1) := by decide +kernel
theorem dX6_pumpAll_85 : decode cX6_pumpAll 85 = .ok (.iload_n 1, 1) := by decide +kernel
theorem dX6_pumpAll_86 : decode cX6_pumpAll 86 = .ok (.aload_n 0, 1) := by decide +kernel
theorem dX6_pumpAll_87 : decode cX6_pumpAll 87 = .ok (.getfield 59, 3) := by decide +kernel
theorem dX6_pumpAll_90 : decode cX6_pumpAll 90 = .ok (.if_icmp .ge 30, 3) := by decide +kernel
theorem dX6_pumpAll_93 : decode cX6_pumpAll 93 = .ok (.aload_n 0, 1) := by decide +kernel
theorem dX6_pumpAll_94 : decode cX6_pumpAll 94 = .ok (.iload_n 1, 1) := by decide +kernel
theorem dX6_pumpAll_95 : decode cX6_pumpAll 95 = .ok (.bipush 6, 2) := by decide +kernel
theorem dX6_pumpAll_97 : decode cX6_pumpAll 97 = .ok (.aload_n 0, 1) := by decide +kernel
theorem dX6_pumpAll_98 : decode cX6_pumpAll 98 = .ok (.iload_n 1, 1) := by decide +kernel
theorem dX6_pumpAll_99 : decode cX6_pumpAll 99 = .ok (.bipush 6, 2) := by decide +kernel
theorem dX6_pumpAll_101 : decode cX6_pumpAll 101 = .ok (.invokevirtual 65, 3) := by decide +kernel
theorem dX6_pumpAll_104 : decode cX6_pumpAll 104 = .ok (.aload_n 0, 1) := by decide +kernel
theorem dX6_pumpAll_105 : decode cX6_pumpAll 105 = .ok (.iload_n 1, 1) := by decide +kernel
theorem dX6_pumpAll_106 : decode cX6_pumpAll 106 = .ok (.iconst 5, 1) := by decide +kernel
theorem dX6_pumpAll_107 : decode cX6_pumpAll 107 = .ok (.invokevirtual 65, 3) := by decide +kernel
theorem dX6_pumpAll_110 : decode cX6_pumpAll 110 = .ok (.iadd, 1) := by decide +kernel
theorem dX6_pumpAll_111 : decode cX6_pumpAll 111 = .ok (.invokevirtual 103, 3) := by decide +kernel
theorem dX6_pumpAll_114 : decode cX6_pumpAll 114 = .ok (.iinc 1 1, 3) := by decide +kernel
theorem dX6_pumpAll_117 : decode cX6_pumpAll 117 = .ok (.goto (-32), 3) := by decide +kernel
theorem dX6_pumpAll_120 : decode cX6_pumpAll 120 = .ok (.iconst 0, 1) := by decide +kernel
theorem dX6_pumpAll_121 : decode cX6_pumpAll 121 = .ok (.istore_n 1, 1) := by decide +kernel
theorem dX6_pumpAll_122 : decode cX6_pumpAll 122 = .ok (.iload_n 1, 1) := by decide +kernel
theorem dX6_pumpAll_123 : decode cX6_pumpAll 123 = .ok (.aload_n 0, 1) := by decide +kernel
theorem dX6_pumpAll_124 : decode cX6_pumpAll 124 = .ok (.getfield 62, 3) := by decide +kernel
theorem dX6_pumpAll_127 : decode cX6_pumpAll 127 = .ok (.if_icmp .ge 37, 3) := by decide +kernel
theorem dX6_pumpAll_130 : decode cX6_pumpAll 130 = .ok (.aload_n 0, 1) := by decide +kernel
theorem dX6_pumpAll_131 : decode cX6_pumpAll 131 = .ok (.iload_n 1, 1) := by decide +kernel
theorem dX6_pumpAll_132 : decode cX6_pumpAll 132 = .ok (.bipush 8, 2) := by decide +kernel
theorem dX6_pumpAll_134 : decode cX6_pumpAll 134 = .ok (.invokevirtual 81, 3) := by decide +kernel
theorem dX6_pumpAll_137 : decode cX6_pumpAll 137 = .ok (.ifCond .le 21, 3) := by decide +kernel
theorem dX6_pumpAll_140 : decode cX6_pumpAll 140 = .ok (.aload_n 0, 1) := by decide +kernel
theorem dX6_pumpAll_141 : decode cX6_pumpAll 141 = .ok (.iload_n 1, 1) := by decide +kernel
theorem dX6_pumpAll_142 : decode cX6_pumpAll 142 = .ok (.iconst 4, 1) := by decide +kernel
theorem dX6_pumpAll_143 : decode cX6_pumpAll 143 = .ok (.iconst 0, 1) := by decide +kernel
theorem dX6_pumpAll_144 : decode cX6_pumpAll 144 = .ok (.aload_n 0, 1) := by decide +kernel
theorem dX6_pumpAll_145 : decode cX6_pumpAll 145 = .ok (.iload_n 1, 1) := by decide +kernel
theorem dX6_pumpAll_146 : decode cX6_pumpAll 146 = .ok (.iconst 4, 1) := by decide +kernel
theorem dX6_pumpAll_147 : decode cX6_pumpAll 147 = .ok (.invokevirtual 81, 3) := by decide +kernel
theorem dX6_pumpAll_150 : decode cX6_pumpAll 150 = .ok (.iconst 2, 1) := by decide +kernel
theorem dX6_pumpAll_151 : decode cX6_pumpAll 151 = .ok (.isub, 1) := by decide +kernel
theorem dX6_pumpAll_152 : decode cX6_pumpAll 152 = .ok (.invokestatic 143, 3) := by decide +kernel
theorem dX6_pumpAll_155 : decode cX6_pumpAll 155 = .ok (.invokevirtual 119, 3) := by decide +kernel
theorem dX6_pumpAll_158 : decode cX6_pumpAll 158 = .ok (.iinc 1 1, 3) := by decide +kernel
theorem dX6_pumpAll_161 : decode cX6_pumpAll 161 = .ok (.goto (-39), 3) := by decide +kernel
theorem dX6_pumpAll_164 : decode cX6_pumpAll 164 = .ok (.return_, 1) := by decide +kernel
theorem dX6_burn_0 : decode cX6_burn 0 = .ok (.aload_n 0, 1) := by decide +kernel
theorem dX6_burn_1 : decode cX6_burn 1 = .ok (.iload_n 1, 1) := by decide +kernel
theorem dX6_burn_2 : decode cX6_burn 2 = .ok (.iconst 3, 1) := by decide +kernel
theorem dX6_burn_3 : decode cX6_burn 3 = .ok (.invokevirtual 65, 3) := by decide +kernel
theorem dX6_burn_6 : decode cX6_burn 6 = .ok (.iconst 1, 1) := by decide +kernel
theorem dX6_burn_7 : decode cX6_burn 7 = .ok (.if_icmp .eq 4, 3) := by decide +kernel
theorem dX6_burn_10 : decode cX6_burn 10 = .ok (.return_, 1) := by decide +kernel
theorem dX6_burn_11 : decode cX6_burn 11 = .ok (.bipush 99, 2) := by decide +kernel
theorem dX6_burn_13 : decode cX6_burn 13 = .ok (.aload_n 0, 1) := by decide +kernel
theorem dX6_burn_14 : decode cX6_burn 14 = .ok (.iload_n 1, 1) := by decide +kernel
theorem dX6_burn_15 : decode cX6_burn 15 = .ok (.iconst 4, 1) := by decide +kernel
theorem dX6_burn_16 : decode cX6_burn 16 = .ok (.invokevirtual 65, 3) := by decide +kernel
theorem dX6_burn_19 : decode cX6_burn 19 = .ok (.aload_n 0, 1) := by decide +kernel
theorem dX6_burn_20 : decode cX6_burn 20 = .ok (.iload_n 1, 1) := by decide +kernel
theorem dX6_burn_21 : decode cX6_burn 21 = .ok (.iconst 1, 1) := by decide +kernel
theorem dX6_burn_22 : decode cX6_burn 22 = .ok (.invokevirtual 65, 3) := by decide +kernel
theorem dX6_burn_25 : decode cX6_burn 25 = .ok (.iadd, 1) := by decide +kernel
theorem dX6_burn_26 : decode cX6_burn 26 = .ok (.aload_n 0, 1) := by decide +kernel
theorem dX6_burn_27 : decode cX6_burn 27 = .ok (.iload_n 1, 1) := by decide +kernel
theorem dX6_burn_28 : decode cX6_burn 28 = .ok (.iconst 5, 1) := by decide +kernel
theorem dX6_burn_29 : decode cX6_burn 29 = .ok (.invokevirtual 65, 3) := by decide +kernel
theorem dX6_burn_32 : decode cX6_burn 32 = .ok (.iconst 4, 1) := by decide +kernel
theorem dX6_burn_33 : decode cX6_burn 33 = .ok (.idiv, 1) := by decide +kernel
theorem dX6_burn_34 : decode cX6_burn 34 = .ok (.isub, 1) := by decide +kernel
theorem dX6_burn_35 : decode cX6_burn 35 = .ok (.invokestatic 146, 3) := by decide +kernel
theorem dX6_burn_38 : decode cX6_burn 38 = .ok (.istore_n 2, 1) := by decide +kernel
theorem dX6_burn_39 : decode cX6_burn 39 = .ok (.aload_n 0, 1) := by decide +kernel
theorem dX6_burn_40 : decode cX6_burn 40 = .ok (.iload_n 1, 1) := by decide +kernel
theorem dX6_burn_41 : decode cX6_burn 41 = .ok (.iconst 4, 1) := by decide +kernel
theorem dX6_burn_42 : decode cX6_burn 42 = .ok (.iconst 0, 1) := by decide +kernel
theorem dX6_burn_43 : decode cX6_burn 43 = .ok (.iload_n 2, 1) := by decide +kernel
theorem dX6_burn_44 : decode cX6_burn 44 = .ok (.invokestatic 143, 3) := by decide +kernel
theorem dX6_burn_47 : decode cX6_burn 47 = .ok (.invokevirtual 103, 3) := by decide +kernel
theorem dX6_burn_50 : decode cX6_burn 50 = .ok (.iload_n 2, 1) := by decide +kernel
theorem dX6_burn_51 : decode cX6_burn 51 = .ok (.ifCond .gt 11, 3) := by decide +kernel
theorem dX6_burn_54 : decode cX6_burn 54 = .ok (.aload_n 0, 1) := by decide +kernel
theorem dX6_burn_55 : decode cX6_burn 55 = .ok (.iload_n 1, 1) := by decide +kernel
theorem dX6_burn_56 : decode cX6_burn 56 = .ok (.iconst 3, 1) := by decide +kernel
theorem dX6_burn_57 : decode cX6_burn 57 = .ok (.iconst 2, 1) := by decide +kernel
theorem dX6_burn_58 : decode cX6_burn 58 = .ok (.invokevirtual 103, 3) := by decide +kernel
theorem dX6_burn_61 : decode cX6_burn 61 = .ok (.return_, 1) := by decide +kernel
theorem dX6_burn_62 : decode cX6_burn 62 = .ok (.aload_n 0, 1) := by decide +kernel
theorem dX6_burn_63 : decode cX6_burn 63 = .ok (.iload_n 1, 1) := by decide +kernel
theorem dX6_burn_64 : decode cX6_burn 64 = .ok (.iconst 2, 1) := by decide +kernel
theorem dX6_burn_65 : decode cX6_burn 65 = .ok (.iconst 0, 1) := by decide +kernel
theorem dX6_burn_66 : decode cX6_burn 66 = .ok (.aload_n 0, 1) := by decide +kernel
theorem dX6_burn_67 : decode cX6_burn 67 = .ok (.iload_n 1, 1) := by decide +kernel
theorem dX6_burn_68 : decode cX6_burn 68 = .ok (.iconst 2, 1) := by decide +kernel
theorem dX6_burn_69 : decode cX6_burn 69 = .ok (.invokevirtual 65, 3) := by decide +kernel
theorem dX6_burn_72 : decode cX6_burn 72 = .ok (.iconst 1, 1) := by decide +kernel
theorem dX6_burn_73 : decode cX6_burn 73 = .ok (.isub, 1) := by decide +kernel
theorem dX6_burn_74 : decode cX6_burn 74 = .ok (.iload_n 2, 1) := by decide +kernel
theorem dX6_burn_75 : decode cX6_burn 75 = .ok (.bipush 25, 2) := by decide +kernel
theorem dX6_burn_77 : decode cX6_burn 77 = .ok (.idiv, 1) := by decide +kernel
theorem dX6_burn_78 : decode cX6_burn 78 = .ok (.isub, 1) := by decide +kernel
theorem dX6_burn_79 : decode cX6_burn 79 = .ok (.invokestatic 143, 3) := by decide +kernel
theorem dX6_burn_82 : decode cX6_burn 82 = .ok (.invokevirtual 103, 3) := by decide +kernel
theorem dX6_burn_85 : decode cX6_burn 85 = .ok (.aload_n 0, 1) := by decide +kernel
theorem dX6_burn_86 : decode cX6_burn 86 = .ok (.iload_n 1, 1) := by decide +kernel
theorem dX6_burn_87 : decode cX6_burn 87 = .ok (.iconst 2, 1) := by decide +kernel
theorem dX6_burn_88 : decode cX6_burn 88 = .ok (.invokevirtual 65, 3) := by decide +kernel
theorem dX6_burn_91 : decode cX6_burn 91 = .ok (.ifCond .le 4, 3) := by decide +kernel
theorem dX6_burn_94 : decode cX6_burn 94 = .ok (.return_, 1) := by decide +kernel
theorem dX6_burn_95 : decode cX6_burn 95 = .ok (.aload_n 0, 1) := by decide +kernel
theorem dX6_burn_96 : decode cX6_burn 96 = .ok (.iload_n 1, 1) := by decide +kernel
theorem dX6_burn_97 : decode cX6_burn 97 = .ok (.iconst 3, 1) := by decide +kernel
theorem dX6_burn_98 : decode cX6_burn 98 = .ok (.iconst 3, 1) := by decide +kernel
theorem dX6_burn_99 : decode cX6_burn 99 = .ok (.invokevirtual 103, 3) := by decide +kernel
theorem dX6_burn_102 : decode cX6_burn 102 = .ok (.aload_n 0, 1) := by decide +kernel
theorem dX6_burn_103 : decode cX6_burn 103 = .ok (.iload_n 1, 1) := by decide +kernel
theorem dX6_burn_104 : decode cX6_burn 104 = .ok (.iconst 4, 1) := by decide +kernel
theorem dX6_burn_105 : decode cX6_burn 105 = .ok (.iconst 0, 1) := by decide +kernel
theorem dX6_burn_106 : decode cX6_burn 106 = .ok (.invokevirtual 103, 3) := by decide +kernel
theorem dX6_burn_109 : decode cX6_burn 109 = .ok (.return_, 1) := by decide +kernel
theorem dX6_minuteOn_0 : decode cX6_minuteOn 0 = .ok (.iconst 0, 1) := by decide +kernel
theorem dX6_minuteOn_1 : decode cX6_minuteOn 1 = .ok (.istore_n 1, 1) := by decide +kernel
theorem dX6_minuteOn_2 : decode cX6_minuteOn 2 = .ok (.iload_n 1, 1) := by decide +kernel
theorem dX6_minuteOn_3 : decode cX6_minuteOn 3 = .ok (.aload_n 0, 1) := by decide +kernel
theorem dX6_minuteOn_4 : decode cX6_minuteOn 4 = .ok (.getfield 62, 3) := by decide +kernel
theorem dX6_minuteOn_7 : decode cX6_minuteOn 7 = .ok (.if_icmp .ge 80, 3) := by decide +kernel
theorem dX6_minuteOn_10 : decode cX6_minuteOn 10 = .ok (.aload_n 0, 1) := by decide +kernel
theorem dX6_minuteOn_11 : decode cX6_minuteOn 11 = .ok (.iload_n 1, 1) := by decide +kernel
theorem dX6_minuteOn_12 : decode cX6_minuteOn 12 = .ok (.iconst 3, 1) := by decide +kernel
theorem dX6_minuteOn_13 : decode cX6_minuteOn 13 = .ok (.invokevirtual 81, 3) := by decide +kernel
theorem dX6_minuteOn_16 : decode cX6_minuteOn 16 = .ok (.ifCond .le 7, 3) := by decide +kernel
theorem dX6_minuteOn_19 : decode cX6_minuteOn 19 = .ok (.iconst 1, 1) := by decide +kernel
theorem dX6_minuteOn_20 : decode cX6_minuteOn 20 = .ok (.goto 4, 3) := by decide +kernel
theorem dX6_minuteOn_23 : decode cX6_minuteOn 23 = .ok (.iconst 0, 1) := by decide +kernel
theorem dX6_minuteOn_24 : decode cX6_minuteOn 24 = .ok (.istore_n 2, 1) := by decide +kernel
theorem dX6_minuteOn_25 : decode cX6_minuteOn 25 = .ok (.aload_n 0, 1) := by decide +kernel
theorem dX6_minuteOn_26 : decode cX6_minuteOn 26 = .ok (.iload_n 1, 1) := by decide +kernel
theorem dX6_minuteOn_27 : decode cX6_minuteOn 27 = .ok (.iconst 3, 1) := by decide +kernel
theorem dX6_minuteOn_28 : decode cX6_minuteOn 28 = .ok (.iconst 0, 1) := by decide +kernel
theorem dX6_minuteOn_29 : decode cX6_minuteOn 29 = .ok (.aload_n 0, 1) := by decide +kernel
theorem dX6_minuteOn_30 : decode cX6_minuteOn 30 = .ok (.iload_n 1, 1) := by decide +kernel
theorem dX6_minuteOn_31 : decode cX6_minuteOn 31 = .ok (.iconst 3, 1) := by decide +kernel
theorem dX6_minuteOn_32 : decode cX6_minuteOn 32 = .ok (.invokevirtual 81, 3) := by decide +kernel
theorem dX6_minuteOn_35 : decode cX6_minuteOn 35 = .ok (.iconst 1, 1) := by decide +kernel
theorem dX6_minuteOn_36 : decode cX6_minuteOn 36 = .ok (.isub, 1) := by decide +kernel
theorem dX6_minuteOn_37 : decode cX6_minuteOn 37 = .ok (.invokestatic 143, 3) := by decide +kernel
theorem dX6_minuteOn_40 : decode cX6_minuteOn 40 = .ok (.invokevirtual 119, 3) := by decide +kernel
theorem dX6_minuteOn_43 : decode cX6_minuteOn 43 = .ok (.aload_n 0, 1) := by decide +kernel
theorem dX6_minuteOn_44 : decode cX6_minuteOn 44 = .ok (.iload_n 1, 1) := by decide +kernel
theorem dX6_minuteOn_45 : decode cX6_minuteOn 45 = .ok (.iconst 4, 1) := by decide +kernel
theorem dX6_minuteOn_46 : decode cX6_minuteOn 46 = .ok (.iload_n 2, 1) := by decide +kernel
theorem dX6_minuteOn_47 : decode cX6_minuteOn 47 = .ok (.ifCond .eq 19, 3) := by decide +kernel
theorem dX6_minuteOn_50 : decode cX6_minuteOn 50 = .ok (.bipush 100, 2) := by decide +kernel
theorem dX6_minuteOn_52 : decode cX6_minuteOn 52 = .ok (.aload_n 0, 1) := by decide +kernel
theorem dX6_minuteOn_53 : decode cX6_minuteOn 53 = .ok (.iload_n 1, 1) := by decide +kernel
theorem dX6_minuteOn_54 : decode cX6_minuteOn 54 = .ok (.iconst 4, 1) := by decide +kernel
theorem dX6_minuteOn_55 : decode cX6_minuteOn 55 = .ok (.invokevirtual 81, 3) := by decide +kernel
theorem dX6_minuteOn_58 : decode cX6_minuteOn 58 = .ok (.iconst 4, 1) := by decide +kernel
theorem dX6_minuteOn_59 : decode cX6_minuteOn 59 = .ok (.iadd, 1) := by decide +kernel
theorem dX6_minuteOn_60 : decode cX6_minuteOn 60 = .ok (.invokestatic 146, 3) := by decide +kernel
theorem dX6_minuteOn_63 : decode cX6_minuteOn 63 = .ok (.goto 15, 3) := by decide +kernel
theorem dX6_minuteOn_66 : decode cX6_minuteOn 66 = .ok (.iconst 0, 1) := by decide +kernel
theorem dX6_minuteOn_67 : decode cX6_minuteOn 67 = .ok (.aload_n 0, 1) := by decide +kernel
theorem dX6_minuteOn_68 : decode cX6_minuteOn 68 = .ok (.iload_n 1, 1) := by decide +kernel
theorem dX6_minuteOn_69 : decode cX6_minuteOn 69 = .ok (.iconst 4, 1) := by decide +kernel
theorem dX6_minuteOn_70 : decode cX6_minuteOn 70 = .ok (.invokevirtual 81, 3) := by decide +kernel
theorem dX6_minuteOn_73 : decode cX6_minuteOn 73 = .ok (.iconst 3, 1) := by decide +kernel
theorem dX6_minuteOn_74 : decode cX6_minuteOn 74 = .ok (.isub, 1) := by decide +kernel
theorem dX6_minuteOn_75 : decode cX6_minuteOn 75 = .ok (.invokestatic 143, 3) := by decide +kernel
theorem dX6_minuteOn_78 : decode cX6_minuteOn 78 = .ok (.invokevirtual 119, 3) := by decide +kernel
theorem dX6_minuteOn_81 : decode cX6_minuteOn 81 = .ok (.iinc 1 1, 3) := by decide +kernel
theorem dX6_minuteOn_84 : decode cX6_minuteOn 84 = .ok (.goto (-82), 3) := by decide +kernel
theorem dX6_minuteOn_87 : decode cX6_minuteOn 87 = .ok (.iconst 0, 1) := by decide +kernel
theorem dX6_minuteOn_88 : decode cX6_minuteOn 88 = .ok (.istore_n 1, 1) := by decide +kernel
theorem dX6_minuteOn_89 : decode cX6_minuteOn 89 = .ok (.iload_n 1, 1) := by decide +kernel
theorem dX6_minuteOn_90 : decode cX6_minuteOn 90 = .ok (.aload_n 0, 1) := by decide +kernel
theorem dX6_minuteOn_91 : decode cX6_minuteOn 91 = .ok (.getfield 62, 3) := by decide +kernel
theorem dX6_minuteOn_94 : decode cX6_minuteOn 94 = .ok (.if_icmp .ge 55, 3) := by decide +kernel
theorem dX6_minuteOn_97 : decode cX6_minuteOn 97 = .ok (.aload_n 0, 1) := by decide +kernel
theorem dX6_minuteOn_98 : decode cX6_minuteOn 98 = .ok (.iload_n 1, 1) := by decide +kernel
theorem dX6_minuteOn_99 : decode cX6_minuteOn 99 = .ok (.invokevirtual 128, 3) := by decide +kernel
theorem dX6_minuteOn_102 : decode cX6_minuteOn 102 = .ok (.ifCond .eq 6, 3) := by decide +kernel
theorem dX6_minuteOn_105 : decode cX6_minuteOn 105 = .ok (.goto 38, 3) := by decide +kernel
theorem dX6_minuteOn_108 : decode cX6_minuteOn 108 = .ok (.aload_n 0, 1) := by decide +kernel
theorem dX6_minuteOn_109 : decode cX6_minuteOn 109 = .ok (.iload_n 1, 1) := by decide +kernel
theorem dX6_minuteOn_110 : decode cX6_minuteOn 110 = .ok (.iconst 5, 1) := by decide +kernel
theorem dX6_minuteOn_111 : decode cX6_minuteOn 111 = .ok (.aload_n 0, 1) := by decide +kernel
theorem dX6_minuteOn_112 : decode cX6_minuteOn 112 = .ok (.iload_n 1, 1) := by decide +kernel
theorem dX6_minuteOn_113 : decode cX6_minuteOn 113 = .ok (.iconst 5, 1) := by decide +kernel
theorem dX6_minuteOn_114 : decode cX6_minuteOn 114 = .ok (.invokevirtual 81, 3) := by decide +kernel
theorem dX6_minuteOn_117 : decode cX6_minuteOn 117 = .ok (.iconst 1, 1) := by decide +kernel
theorem dX6_minuteOn_118 : decode cX6_minuteOn 118 = .ok (.isub, 1) := by decide +kernel
theorem dX6_minuteOn_119 : decode cX6_minuteOn 119 = .ok (.invokevirtual 119, 3) := by decide +kernel
theorem dX6_minuteOn_122 : decode cX6_minuteOn 122 = .ok (.aload_n 0, 1) := by decide +kernel
theorem dX6_minuteOn_123 : decode cX6_minuteOn 123 = .ok (.iload_n 1, 1) := by decide +kernel
theorem dX6_minuteOn_124 : decode cX6_minuteOn 124 = .ok (.invokevirtual 128, 3) := by decide +kernel
theorem dX6_minuteOn_127 : decode cX6_minuteOn 127 = .ok (.ifCond .eq 16, 3) := by decide +kernel
theorem dX6_minuteOn_130 : decode cX6_minuteOn 130 = .ok (.aload_n 0, 1) := by decide +kernel
theorem dX6_minuteOn_131 : decode cX6_minuteOn 131 = .ok (.iload_n 1, 1) := by decide +kernel
theorem dX6_minuteOn_132 : decode cX6_minuteOn 132 = .ok (.iconst 0, 1) := by decide +kernel
theorem dX6_minuteOn_133 : decode cX6_minuteOn 133 = .ok (.aload_n 0, 1) := by decide +kernel
theorem dX6_minuteOn_134 : decode cX6_minuteOn 134 = .ok (.iload_n 1, 1) := by decide +kernel
theorem dX6_minuteOn_135 : decode cX6_minuteOn 135 = .ok (.bipush 6, 2) := by decide +kernel
theorem dX6_minuteOn_137 : decode cX6_minuteOn 137 = .ok (.invokevirtual 81, 3) := by decide +kernel
theorem dX6_minuteOn_140 : decode cX6_minuteOn 140 = .ok (.invokevirtual 119, 3) := by decide +kernel
theorem dX6_minuteOn_143 : decode cX6_minuteOn 143 = .ok (.iinc 1 1, 3) := by decide +kernel
theorem dX6_minuteOn_146 : decode cX6_minuteOn 146 = .ok (.goto (-57), 3) := by decide +kernel
theorem dX6_minuteOn_149 : decode cX6_minuteOn 149 = .ok (.aload_n 0, 1) := by decide +kernel
theorem dX6_minuteOn_150 : decode cX6_minuteOn 150 = .ok (.invokevirtual 157, 3) := by decide +kernel
theorem dX6_minuteOn_153 : decode cX6_minuteOn 153 = .ok (.iconst 0, 1) := by decide +kernel
theorem dX6_minuteOn_154 : decode cX6_minuteOn 154 = .ok (.istore_n 1, 1) := by decide +kernel
theorem dX6_minuteOn_155 : decode cX6_minuteOn 155 = .ok (.iload_n 1, 1) := by decide +kernel
theorem dX6_minuteOn_156 : decode cX6_minuteOn 156 = .ok (.aload_n 0, 1) := by decide +kernel
theorem dX6_minuteOn_157 : decode cX6_minuteOn 157 = .ok (.getfield 59, 3) := by decide +kernel
theorem dX6_minuteOn_160 : decode cX6_minuteOn 160 = .ok (.if_icmp .ge 14, 3) := by decide +kernel
theorem dX6_minuteOn_163 : decode cX6_minuteOn 163 = .ok (.aload_n 0, 1) := by decide +kernel
theorem dX6_minuteOn_164 : decode cX6_minuteOn 164 = .ok (.iload_n 1, 1) := by decide +kernel
theorem dX6_minuteOn_165 : decode cX6_minuteOn 165 = .ok (.invokevirtual 160, 3) := by decide +kernel
theorem dX6_minuteOn_168 : decode cX6_minuteOn 168 = .ok (.iinc 1 1, 3) := by decide +kernel
theorem dX6_minuteOn_171 : decode cX6_minuteOn 171 = .ok (.goto (-16), 3) := by decide +kernel
theorem dX6_minuteOn_174 : decode cX6_minuteOn 174 = .ok (.iconst 0, 1) := by decide +kernel
theorem dX6_minuteOn_175 : decode cX6_minuteOn 175 = .ok (.istore_n 1, 1) := by decide +kernel
theorem dX6_minuteOn_176 : decode cX6_minuteOn 176 = .ok (.iconst 0, 1) := by decide +kernel
theorem dX6_minuteOn_177 : decode cX6_minuteOn 177 = .ok (.istore_n 2, 1) := by decide +kernel
theorem dX6_minuteOn_178 : decode cX6_minuteOn 178 = .ok (.iload_n 2, 1) := by decide +kernel
theorem dX6_minuteOn_179 : decode cX6_minuteOn 179 = .ok (.aload_n 0, 1) := by decide +kernel
theorem dX6_minuteOn_180 : decode cX6_minuteOn 180 = .ok (.getfield 59, 3) := by decide +kernel
theorem dX6_minuteOn_183 : decode cX6_minuteOn 183 = .ok (.if_icmp .ge 51, 3) := by decide +kernel
theorem dX6_minuteOn_186 : decode cX6_minuteOn 186 = .ok (.aload_n 0, 1) := by decide +kernel
theorem dX6_minuteOn_187 : decode cX6_minuteOn 187 = .ok (.getfield 35, 3) := by decide +kernel
theorem dX6_minuteOn_190 : decode cX6_minuteOn 190 = .ok (.iload_n 2, 1) := by decide +kernel
theorem dX6_minuteOn_191 : decode cX6_minuteOn 191 = .ok (.aload_n 0, 1) := by decide +kernel
theorem dX6_minuteOn_192 : decode cX6_minuteOn 192 = .ok (.iload_n 2, 1) := by decide +kernel
theorem dX6_minuteOn_193 : decode cX6_minuteOn 193 = .ok (.iconst 3, 1) := by decide +kernel
theorem dX6_minuteOn_194 : decode cX6_minuteOn 194 = .ok (.invokevirtual 65, 3) := by decide +kernel
theorem dX6_minuteOn_197 : decode cX6_minuteOn 197 = .ok (.ifCond .ne 29, 3) := by decide +kernel
theorem dX6_minuteOn_200 : decode cX6_minuteOn 200 = .ok (.aload_n 0, 1) := by decide +kernel
theorem dX6_minuteOn_201 : decode cX6_minuteOn 201 = .ok (.aload_n 0, 1) := by decide +kernel
theorem dX6_minuteOn_202 : decode cX6_minuteOn 202 = .ok (.iload_n 2, 1) := by decide +kernel
theorem dX6_minuteOn_203 : decode cX6_minuteOn 203 = .ok (.iconst 0, 1) := by decide +kernel
theorem dX6_minuteOn_204 : decode cX6_minuteOn 204 = .ok (.invokevirtual 65, 3) := by decide +kernel
theorem dX6_minuteOn_207 : decode cX6_minuteOn 207 = .ok (.invokevirtual 113, 3) := by decide +kernel
theorem dX6_minuteOn_210 : decode cX6_minuteOn 210 = .ok (.aload_n 0, 1) := by decide +kernel
theorem dX6_minuteOn_211 : decode cX6_minuteOn 211 = .ok (.iload_n 2, 1) := by decide +kernel
theorem dX6_minuteOn_212 : decode cX6_minuteOn 212 = .ok (.iconst 5, 1) := by decide +kernel
theorem dX6_minuteOn_213 : decode cX6_minuteOn 213 = .ok (.invokevirtual 65, 3) := by decide +kernel
theorem dX6_minuteOn_216 : decode cX6_minuteOn 216 = .ok (.isub, 1) := by decide +kernel
theorem dX6_minuteOn_217 : decode cX6_minuteOn 217 = .ok (.bipush 40, 2) := by decide +kernel
theorem dX6_minuteOn_219 : decode cX6_minuteOn 219 = .ok (.if_icmp .lt 7, 3) := by decide +kernel
theorem dX6_minuteOn_222 : decode cX6_minuteOn 222 = .ok (.iconst 1, 1) := by decide +kernel
theorem dX6_minuteOn_223 : decode cX6_minuteOn 223 = .ok (.goto 4, 3) := by decide +kernel
theorem dX6_minuteOn_226 : decode cX6_minuteOn 226 = .ok (.iconst 0, 1) := by decide +kernel
theorem dX6_minuteOn_227 : decode cX6_minuteOn 227 = .ok (.bastore, 1) := by decide +kernel
theorem dX6_minuteOn_228 : decode cX6_minuteOn 228 = .ok (.iinc 2 1, 3) := by decide +kernel
theorem dX6_minuteOn_231 : decode cX6_minuteOn 231 = .ok (.goto (-53), 3) := by decide +kernel
theorem dX6_minuteOn_234 : decode cX6_minuteOn 234 = .ok (.iconst 0, 1) := by decide +kernel
theorem dX6_minuteOn_235 : decode cX6_minuteOn 235 = .ok (.istore_n 2, 1) := by decide +kernel
theorem dX6_minuteOn_236 : decode cX6_minuteOn 236 = .ok (.iload_n 2, 1) := by decide +kernel
theorem dX6_minuteOn_237 : decode cX6_minuteOn 237 = .ok (.aload_n 0, 1) := by decide +kernel
theorem dX6_minuteOn_238 : decode cX6_minuteOn 238 = .ok (.getfield 59, 3) := by decide +kernel
theorem dX6_minuteOn_241 : decode cX6_minuteOn 241 = .ok (.if_icmp .ge 38, 3) := by decide +kernel
theorem dX6_minuteOn_244 : decode cX6_minuteOn 244 = .ok (.aload_n 0, 1) := by decide +kernel
theorem dX6_minuteOn_245 : decode cX6_minuteOn 245 = .ok (.getfield 35, 3) := by decide +kernel
theorem dX6_minuteOn_248 : decode cX6_minuteOn 248 = .ok (.iload_n 2, 1) := by decide +kernel
theorem dX6_minuteOn_249 : decode cX6_minuteOn 249 = .ok (.baload, 1) := by decide +kernel
theorem dX6_minuteOn_250 : decode cX6_minuteOn 250 = .ok (.ifCond .ne 6, 3) := by decide +kernel
theorem dX6_minuteOn_253 : decode cX6_minuteOn 253 = .ok (.goto 20, 3) := by decide +kernel
theorem dX6_minuteOn_256 : decode cX6_minuteOn 256 = .ok (.aload_n 0, 1) := by decide +kernel
theorem dX6_minuteOn_257 : decode cX6_minuteOn 257 = .ok (.iload_n 2, 1) := by decide +kernel
theorem dX6_minuteOn_258 : decode cX6_minuteOn 258 = .ok (.iconst 3, 1) := by decide +kernel
theorem dX6_minuteOn_259 : decode cX6_minuteOn 259 = .ok (.iconst 1, 1) := by decide +kernel
theorem dX6_minuteOn_260 : decode cX6_minuteOn 260 = .ok (.invokevirtual 103, 3) := by decide +kernel
theorem dX6_minuteOn_263 : decode cX6_minuteOn 263 = .ok (.aload_n 0, 1) := by decide +kernel
theorem dX6_minuteOn_264 : decode cX6_minuteOn 264 = .ok (.iload_n 2, 1) := by decide +kernel
theorem dX6_minuteOn_265 : decode cX6_minuteOn 265 = .ok (.iconst 4, 1) := by decide +kernel
theorem dX6_minuteOn_266 : decode cX6_minuteOn 266 = .ok (.iconst 5, 1) := by decide +kernel
theorem dX6_minuteOn_267 : decode cX6_minuteOn 267 = .ok (.invokevirtual 103, 3) := by decide +kernel
theorem dX6_minuteOn_270 : decode cX6_minuteOn 270 = .ok (.iinc 1 1, 3) := by decide +kernel
theorem dX6_minuteOn_273 : decode cX6_minuteOn 273 = .ok (.iinc 2 1, 3) := by decide +kernel
theorem dX6_minuteOn_276 : decode cX6_minuteOn 276 = .ok (.goto (-40), 3) := by decide +kernel
theorem dX6_minuteOn_279 : decode cX6_minuteOn 279 = .ok (.aload_n 0, 1) := by decide +kernel
theorem dX6_minuteOn_280 : decode cX6_minuteOn 280 = .ok (.getfield 22, 3) := by decide +kernel
theorem dX6_minuteOn_283 : decode cX6_minuteOn 283 = .ok (.iconst 0, 1) := by decide +kernel
theorem dX6_minuteOn_284 : decode cX6_minuteOn 284 = .ok (.dup2, 1) := by decide +kernel
theorem dX6_minuteOn_285 : decode cX6_minuteOn 285 = .ok (.iaload, 1) := by decide +kernel
theorem dX6_minuteOn_286 : decode cX6_minuteOn 286 = .ok (.iconst 1, 1) := by decide +kernel
theorem dX6_minuteOn_287 : decode cX6_minuteOn 287 = .ok (.iadd, 1) := by decide +kernel
theorem dX6_minuteOn_288 : decode cX6_minuteOn 288 = .ok (.iastore, 1) := by decide +kernel
theorem dX6_minuteOn_289 : decode cX6_minuteOn 289 = .ok (.iload_n 1, 1) := by decide +kernel
theorem dX6_minuteOn_290 : decode cX6_minuteOn 290 = .ok (.ireturn, 1) := by decide +kernel
theorem dX6_pass_0 : decode cX6_pass 0 = .ok (.aload_n 0, 1) := by decide +kernel
theorem dX6_pass_1 : decode cX6_pass 1 = .ok (.iconst 0, 1) := by decide +kernel
theorem dX6_pass_2 : decode cX6_pass 2 = .ok (.putfield 38, 3) := by decide +kernel
theorem dX6_pass_5 : decode cX6_pass 5 = .ok (.iload_n 1, 1) := by decide +kernel
theorem dX6_pass_6 : decode cX6_pass 6 = .ok (.iconst 1, 1) := by decide +kernel
theorem dX6_pass_7 : decode cX6_pass 7 = .ok (.bipush 100, 2) := by decide +kernel
theorem dX6_pass_9 : decode cX6_pass 9 = .ok (.invokestatic 42, 3) := by decide +kernel
theorem dX6_pass_12 : decode cX6_pass 12 = .ok (.ifCond .ne 9, 3) := by decide +kernel
theorem dX6_pass_15 : decode cX6_pass 15 = .ok (.aload_n 0, 1) := by decide +kernel
theorem dX6_pass_16 : decode cX6_pass 16 = .ok (.iconst 1, 1) := by decide +kernel
theorem dX6_pass_17 : decode cX6_pass 17 = .ok (.invokevirtual 88, 3) := by decide +kernel
theorem dX6_pass_20 : decode cX6_pass 20 = .ok (.ireturn, 1) := by decide +kernel
theorem dX6_pass_21 : decode cX6_pass 21 = .ok (.iconst 0, 1) := by decide +kernel
theorem dX6_pass_22 : decode cX6_pass 22 = .ok (.istore_n 2, 1) := by decide +kernel
theorem dX6_pass_23 : decode cX6_pass 23 = .ok (.iconst 0, 1) := by decide +kernel
theorem dX6_pass_24 : decode cX6_pass 24 = .ok (.istore_n 3, 1) := by decide +kernel
theorem dX6_pass_25 : decode cX6_pass 25 = .ok (.iload_n 3, 1) := by decide +kernel
theorem dX6_pass_26 : decode cX6_pass 26 = .ok (.iload_n 1, 1) := by decide +kernel
theorem dX6_pass_27 : decode cX6_pass 27 = .ok (.if_icmp .ge 16, 3) := by decide +kernel
theorem dX6_pass_30 : decode cX6_pass 30 = .ok (.iload_n 2, 1) := by decide +kernel
theorem dX6_pass_31 : decode cX6_pass 31 = .ok (.aload_n 0, 1) := by decide +kernel
theorem dX6_pass_32 : decode cX6_pass 32 = .ok (.invokevirtual 163, 3) := by decide +kernel
theorem dX6_pass_35 : decode cX6_pass 35 = .ok (.iadd, 1) := by decide +kernel
theorem dX6_pass_36 : decode cX6_pass 36 = .ok (.istore_n 2, 1) := by decide +kernel
theorem dX6_pass_37 : decode cX6_pass 37 = .ok (.iinc 3 1, 3) := by decide +kernel
theorem dX6_pass_40 : decode cX6_pass 40 = .ok (.goto (-15), 3) := by decide +kernel
theorem dX6_pass_43 : decode cX6_pass 43 = .ok (.iload_n 2, 1) := by decide +kernel
theorem dX6_pass_44 : decode cX6_pass 44 = .ok (.ireturn, 1) := by decide +kernel
theorem dX6_counted_0 : decode cX6_counted 0 = .ok (.iconst 0, 1) := by decide +kernel
theorem dX6_counted_1 : decode cX6_counted 1 = .ok (.istore_n 2, 1) := by decide +kernel
theorem dX6_counted_2 : decode cX6_counted 2 = .ok (.iload_n 1, 1) := by decide +kernel
theorem dX6_counted_3 : decode cX6_counted 3 = .ok (.tableswitch 102 0 7 #[45, 52, 57, 57, 57, 65, 70, 75], 45) := by decide +kernel
theorem dX6_counted_48 : decode cX6_counted 48 = .ok (.aload_n 0, 1) := by decide +kernel
theorem dX6_counted_49 : decode cX6_counted 49 = .ok (.getfield 22, 3) := by decide +kernel
theorem dX6_counted_52 : decode cX6_counted 52 = .ok (.iconst 0, 1) := by decide +kernel
theorem dX6_counted_53 : decode cX6_counted 53 = .ok (.iaload, 1) := by decide +kernel
theorem dX6_counted_54 : decode cX6_counted 54 = .ok (.ireturn, 1) := by decide +kernel
theorem dX6_counted_55 : decode cX6_counted 55 = .ok (.aload_n 0, 1) := by decide +kernel
theorem dX6_counted_56 : decode cX6_counted 56 = .ok (.getfield 59, 3) := by decide +kernel
theorem dX6_counted_59 : decode cX6_counted 59 = .ok (.ireturn, 1) := by decide +kernel
theorem dX6_counted_60 : decode cX6_counted 60 = .ok (.aload_n 0, 1) := by decide +kernel
theorem dX6_counted_61 : decode cX6_counted 61 = .ok (.iload_n 1, 1) := by decide +kernel
theorem dX6_counted_62 : decode cX6_counted 62 = .ok (.iconst 1, 1) := by decide +kernel
theorem dX6_counted_63 : decode cX6_counted 63 = .ok (.isub, 1) := by decide +kernel
theorem dX6_counted_64 : decode cX6_counted 64 = .ok (.invokevirtual 107, 3) := by decide +kernel
theorem dX6_counted_67 : decode cX6_counted 67 = .ok (.ireturn, 1) := by decide +kernel
theorem dX6_counted_68 : decode cX6_counted 68 = .ok (.aload_n 0, 1) := by decide +kernel
theorem dX6_counted_69 : decode cX6_counted 69 = .ok (.getfield 68, 3) := by decide +kernel
theorem dX6_counted_72 : decode cX6_counted 72 = .ok (.ireturn, 1) := by decide +kernel
theorem dX6_counted_73 : decode cX6_counted 73 = .ok (.aload_n 0, 1) := by decide +kernel
theorem dX6_counted_74 : decode cX6_counted 74 = .ok (.getfield 62, 3) := by decide +kernel
theorem dX6_counted_77 : decode cX6_counted 77 = .ok (.ireturn, 1) := by decide +kernel
theorem dX6_counted_78 : decode cX6_counted 78 = .ok (.iconst 0, 1) := by decide +kernel
theorem dX6_counted_79 : decode cX6_counted 79 = .ok (.istore_n 3, 1) := by decide +kernel
theorem dX6_counted_80 : decode cX6_counted 80 = .ok (.iload_n 3, 1) := by decide +kernel
theorem dX6_counted_81 : decode cX6_counted 81 = .ok (.aload_n 0, 1) := by decide +kernel
theorem dX6_counted_82 : decode cX6_counted 82 = .ok (.getfield 68, 3) := by decide +kernel
theorem dX6_counted_85 : decode cX6_counted 85 = .ok (.if_icmp .ge 18, 3) := by decide +kernel
theorem dX6_counted_88 : decode cX6_counted 88 = .ok (.iload_n 2, 1) := by decide +kernel
theorem dX6_counted_89 : decode cX6_counted 89 = .ok (.aload_n 0, 1) := by decide +kernel
theorem dX6_counted_90 : decode cX6_counted 90 = .ok (.getfield 13, 3) := by decide +kernel
theorem dX6_counted_93 : decode cX6_counted 93 = .ok (.iload_n 3, 1) := by decide +kernel
theorem dX6_counted_94 : decode cX6_counted 94 = .ok (.iaload, 1) := by decide +kernel
theorem dX6_counted_95 : decode cX6_counted 95 = .ok (.iadd, 1) := by decide +kernel
theorem dX6_counted_96 : decode cX6_counted 96 = .ok (.istore_n 2, 1) := by decide +kernel
theorem dX6_counted_97 : decode cX6_counted 97 = .ok (.iinc 3 1, 3) := by decide +kernel
theorem dX6_counted_100 : decode cX6_counted 100 = .ok (.goto (-20), 3) := by decide +kernel
theorem dX6_counted_103 : decode cX6_counted 103 = .ok (.iload_n 2, 1) := by decide +kernel
theorem dX6_counted_104 : decode cX6_counted 104 = .ok (.ireturn, 1) := by decide +kernel
theorem dX6_counted_105 : decode cX6_counted 105 = .ok (.iconst 0, 1) := by decide +kernel
theorem dX6_counted_106 : decode cX6_counted 106 = .ok (.istore_n 3, 1) := by decide +kernel
theorem dX6_counted_107 : decode cX6_counted 107 = .ok (.iload_n 3, 1) := by decide +kernel
theorem dX6_counted_108 : decode cX6_counted 108 = .ok (.aload_n 0, 1) := by decide +kernel
theorem dX6_counted_109 : decode cX6_counted 109 = .ok (.getfield 59, 3) := by decide +kernel
theorem dX6_counted_112 : decode cX6_counted 112 = .ok (.if_icmp .ge 29, 3) := by decide +kernel
theorem dX6_counted_115 : decode cX6_counted 115 = .ok (.iload_n 2, 1) := by decide +kernel
theorem dX6_counted_116 : decode cX6_counted 116 = .ok (.aload_n 0, 1) := by decide +kernel
theorem dX6_counted_117 : decode cX6_counted 117 = .ok (.iload_n 3, 1) := by decide +kernel
theorem dX6_counted_118 : decode cX6_counted 118 = .ok (.iload_n 1, 1) := by decide +kernel
theorem dX6_counted_119 : decode cX6_counted 119 = .ok (.bipush 8, 2) := by decide +kernel
theorem dX6_counted_121 : decode cX6_counted 121 = .ok (.if_icmp .ne 7, 3) := by decide +kernel
theorem dX6_counted_124 : decode cX6_counted 124 = .ok (.iconst 4, 1) := by decide +kernel
theorem dX6_counted_125 : decode cX6_counted 125 = .ok (.goto 5, 3) := by decide +kernel
theorem dX6_counted_128 : decode cX6_counted 128 = .ok (.bipush 6, 2) := by decide +kernel
theorem dX6_counted_130 : decode cX6_counted 130 = .ok (.invokevirtual 65, 3) := by decide +kernel
theorem dX6_counted_133 : decode cX6_counted 133 = .ok (.iadd, 1) := by decide +kernel
theorem dX6_counted_134 : decode cX6_counted 134 = .ok (.istore_n 2, 1) := by decide +kernel
theorem dX6_counted_135 : decode cX6_counted 135 = .ok (.iinc 3 1, 3) := by decide +kernel
theorem dX6_counted_138 : decode cX6_counted 138 = .ok (.goto (-31), 3) := by decide +kernel
theorem dX6_counted_141 : decode cX6_counted 141 = .ok (.iload_n 2, 1) := by decide +kernel
theorem dX6_counted_142 : decode cX6_counted 142 = .ok (.ireturn, 1) := by decide +kernel
theorem dX6_count_0 : decode cX6_count 0 = .ok (.aload_n 0, 1) := by decide +kernel
theorem dX6_count_1 : decode cX6_count 1 = .ok (.iconst 0, 1) := by decide +kernel
theorem dX6_count_2 : decode cX6_count 2 = .ok (.putfield 38, 3) := by decide +kernel
theorem dX6_count_5 : decode cX6_count 5 = .ok (.iload_n 1, 1) := by decide +kernel
theorem dX6_count_6 : decode cX6_count 6 = .ok (.iconst 0, 1) := by decide +kernel
theorem dX6_count_7 : decode cX6_count 7 = .ok (.bipush 9, 2) := by decide +kernel
theorem dX6_count_9 : decode cX6_count 9 = .ok (.invokestatic 42, 3) := by decide +kernel
theorem dX6_count_12 : decode cX6_count 12 = .ok (.ifCond .eq 11, 3) := by decide +kernel
theorem dX6_count_15 : decode cX6_count 15 = .ok (.aload_n 0, 1) := by decide +kernel
theorem dX6_count_16 : decode cX6_count 16 = .ok (.iload_n 1, 1) := by decide +kernel
theorem dX6_count_17 : decode cX6_count 17 = .ok (.invokevirtual 166, 3) := by decide +kernel
theorem dX6_count_20 : decode cX6_count 20 = .ok (.goto 8, 3) := by decide +kernel
theorem dX6_count_23 : decode cX6_count 23 = .ok (.aload_n 0, 1) := by decide +kernel
theorem dX6_count_24 : decode cX6_count 24 = .ok (.iconst 1, 1) := by decide +kernel
theorem dX6_count_25 : decode cX6_count 25 = .ok (.invokevirtual 88, 3) := by decide +kernel
theorem dX6_count_28 : decode cX6_count 28 = .ok (.ireturn, 1) := by decide +kernel
theorem dX6_kept_0 : decode cX6_kept 0 = .ok (.iconst 4, 1) := by decide +kernel
theorem dX6_kept_1 : decode cX6_kept 1 = .ok (.anewarray 169, 3) := by decide +kernel
theorem dX6_kept_4 : decode cX6_kept 4 = .ok (.dup, 1) := by decide +kernel
theorem dX6_kept_5 : decode cX6_kept 5 = .ok (.iconst 0, 1) := by decide +kernel
theorem dX6_kept_6 : decode cX6_kept 6 = .ok (.aload_n 0, 1) := by decide +kernel
theorem dX6_kept_7 : decode cX6_kept 7 = .ok (.getfield 13, 3) := by decide +kernel
theorem dX6_kept_10 : decode cX6_kept 10 = .ok (.invokevirtual 170, 3) := by decide +kernel
theorem dX6_kept_13 : decode cX6_kept 13 = .ok (.checkcast 169, 3) := by decide +kernel
theorem dX6_kept_16 : decode cX6_kept 16 = .ok (.aastore, 1) := by decide +kernel
theorem dX6_kept_17 : decode cX6_kept 17 = .ok (.dup, 1) := by decide +kernel
theorem dX6_kept_18 : decode cX6_kept 18 = .ok (.iconst 1, 1) := by decide +kernel
theorem dX6_kept_19 : decode cX6_kept 19 = .ok (.aload_n 0, 1) := by decide +kernel
theorem dX6_kept_20 : decode cX6_kept 20 = .ok (.getfield 16, 3) := by decide +kernel
theorem dX6_kept_23 : decode cX6_kept 23 = .ok (.invokevirtual 170, 3) := by decide +kernel
theorem dX6_kept_26 : decode cX6_kept 26 = .ok (.checkcast 169, 3) := by decide +kernel
theorem dX6_kept_29 : decode cX6_kept 29 = .ok (.aastore, 1) := by decide +kernel
theorem dX6_kept_30 : decode cX6_kept 30 = .ok (.dup, 1) := by decide +kernel
theorem dX6_kept_31 : decode cX6_kept 31 = .ok (.iconst 2, 1) := by decide +kernel
theorem dX6_kept_32 : decode cX6_kept 32 = .ok (.aload_n 0, 1) := by decide +kernel
theorem dX6_kept_33 : decode cX6_kept 33 = .ok (.getfield 19, 3) := by decide +kernel
theorem dX6_kept_36 : decode cX6_kept 36 = .ok (.invokevirtual 170, 3) := by decide +kernel
theorem dX6_kept_39 : decode cX6_kept 39 = .ok (.checkcast 169, 3) := by decide +kernel
theorem dX6_kept_42 : decode cX6_kept 42 = .ok (.aastore, 1) := by decide +kernel
theorem dX6_kept_43 : decode cX6_kept 43 = .ok (.dup, 1) := by decide +kernel
theorem dX6_kept_44 : decode cX6_kept 44 = .ok (.iconst 3, 1) := by decide +kernel
theorem dX6_kept_45 : decode cX6_kept 45 = .ok (.aload_n 0, 1) := by decide +kernel
theorem dX6_kept_46 : decode cX6_kept 46 = .ok (.getfield 22, 3) := by decide +kernel
theorem dX6_kept_49 : decode cX6_kept 49 = .ok (.invokevirtual 170, 3) := by decide +kernel
theorem dX6_kept_52 : decode cX6_kept 52 = .ok (.checkcast 169, 3) := by decide +kernel
theorem dX6_kept_55 : decode cX6_kept 55 = .ok (.aastore, 1) := by decide +kernel
theorem dX6_kept_56 : decode cX6_kept 56 = .ok (.areturn, 1) := by decide +kernel
theorem dX6_bringBack_0 : decode cX6_bringBack 0 = .ok (.iconst 4, 1) := by decide +kernel
theorem dX6_bringBack_1 : decode cX6_bringBack 1 = .ok (.anewarray 169, 3) := by decide +kernel
theorem dX6_bringBack_4 : decode cX6_bringBack 4 = .ok (.dup, 1) := by decide +kernel
theorem dX6_bringBack_5 : decode cX6_bringBack 5 = .ok (.iconst 0, 1) := by decide +kernel
theorem dX6_bringBack_6 : decode cX6_bringBack 6 = .ok (.aload_n 0, 1) := by decide +kernel
theorem dX6_bringBack_7 : decode cX6_bringBack 7 = .ok (.getfield 13, 3) := by decide +kernel
theorem dX6_bringBack_10 : decode cX6_bringBack 10 = .ok (.aastore, 1) := by decide +kernel
theorem dX6_bringBack_11 : decode cX6_bringBack 11 = .ok (.dup, 1) := by decide +kernel
theorem dX6_bringBack_12 : decode cX6_bringBack 12 = .ok (.iconst 1, 1) := by decide +kernel
theorem dX6_bringBack_13 : decode cX6_bringBack 13 = .ok (.aload_n 0, 1) := by decide +kernel
theorem dX6_bringBack_14 : decode cX6_bringBack 14 = .ok (.getfield 16, 3) := by decide +kernel
theorem dX6_bringBack_17 : decode cX6_bringBack 17 = .ok (.aastore, 1) := by decide +kernel
theorem dX6_bringBack_18 : decode cX6_bringBack 18 = .ok (.dup, 1) := by decide +kernel
theorem dX6_bringBack_19 : decode cX6_bringBack 19 = .ok (.iconst 2, 1) := by decide +kernel
theorem dX6_bringBack_20 : decode cX6_bringBack 20 = .ok (.aload_n 0, 1) := by decide +kernel
theorem dX6_bringBack_21 : decode cX6_bringBack 21 = .ok (.getfield 19, 3) := by decide +kernel
theorem dX6_bringBack_24 : decode cX6_bringBack 24 = .ok (.aastore, 1) := by decide +kernel
theorem dX6_bringBack_25 : decode cX6_bringBack 25 = .ok (.dup, 1) := by decide +kernel
theorem dX6_bringBack_26 : decode cX6_bringBack 26 = .ok (.iconst 3, 1) := by decide +kernel
theorem dX6_bringBack_27 : decode cX6_bringBack 27 = .ok (.aload_n 0, 1) := by decide +kernel
theorem dX6_bringBack_28 : decode cX6_bringBack 28 = .ok (.getfield 22, 3) := by decide +kernel
theorem dX6_bringBack_31 : decode cX6_bringBack 31 = .ok (.aastore, 1) := by decide +kernel
theorem dX6_bringBack_32 : decode cX6_bringBack 32 = .ok (.astore_n 2, 1) := by decide +kernel
theorem dX6_bringBack_33 : decode cX6_bringBack 33 = .ok (.iconst 0, 1) := by decide +kernel
theorem dX6_bringBack_34 : decode cX6_bringBack 34 = .ok (.istore_n 3, 1) := by decide +kernel
theorem dX6_bringBack_35 : decode cX6_bringBack 35 = .ok (.iload_n 3, 1) := by decide +kernel
theorem dX6_bringBack_36 : decode cX6_bringBack 36 = .ok (.iconst 4, 1) := by decide +kernel
theorem dX6_bringBack_37 : decode cX6_bringBack 37 = .ok (.if_icmp .ge 24, 3) := by decide +kernel
theorem dX6_bringBack_40 : decode cX6_bringBack 40 = .ok (.aload_n 1, 1) := by decide +kernel
theorem dX6_bringBack_41 : decode cX6_bringBack 41 = .ok (.iload_n 3, 1) := by decide +kernel
theorem dX6_bringBack_42 : decode cX6_bringBack 42 = .ok (.aaload, 1) := by decide +kernel
theorem dX6_bringBack_43 : decode cX6_bringBack 43 = .ok (.iconst 0, 1) := by decide +kernel
theorem dX6_bringBack_44 : decode cX6_bringBack 44 = .ok (.aload_n 2, 1) := by decide +kernel
theorem dX6_bringBack_45 : decode cX6_bringBack 45 = .ok (.iload_n 3, 1) := by decide +kernel
theorem dX6_bringBack_46 : decode cX6_bringBack 46 = .ok (.aaload, 1) := by decide +kernel
theorem dX6_bringBack_47 : decode cX6_bringBack 47 = .ok (.iconst 0, 1) := by decide +kernel
theorem dX6_bringBack_48 : decode cX6_bringBack 48 = .ok (.aload_n 2, 1) := by decide +kernel
theorem dX6_bringBack_49 : decode cX6_bringBack 49 = .ok (.iload_n 3, 1) := by decide +kernel
theorem dX6_bringBack_50 : decode cX6_bringBack 50 = .ok (.aaload, 1) := by decide +kernel
theorem dX6_bringBack_51 : decode cX6_bringBack 51 = .ok (.arraylength, 1) := by decide +kernel
theorem dX6_bringBack_52 : decode cX6_bringBack 52 = .ok (.invokestatic 94, 3) := by decide +kernel
theorem dX6_bringBack_55 : decode cX6_bringBack 55 = .ok (.iinc 3 1, 3) := by decide +kernel
theorem dX6_bringBack_58 : decode cX6_bringBack 58 = .ok (.goto (-23), 3) := by decide +kernel
theorem dX6_bringBack_61 : decode cX6_bringBack 61 = .ok (.return_, 1) := by decide +kernel
theorem dX6_foresee_0 : decode cX6_foresee 0 = .ok (.aload_n 0, 1) := by decide +kernel
theorem dX6_foresee_1 : decode cX6_foresee 1 = .ok (.iconst 0, 1) := by decide +kernel
theorem dX6_foresee_2 : decode cX6_foresee 2 = .ok (.putfield 38, 3) := by decide +kernel
theorem dX6_foresee_5 : decode cX6_foresee 5 = .ok (.iload_n 1, 1) := by decide +kernel
theorem dX6_foresee_6 : decode cX6_foresee 6 = .ok (.iconst 1, 1) := by decide +kernel
theorem dX6_foresee_7 : decode cX6_foresee 7 = .ok (.bipush 100, 2) := by decide +kernel
theorem dX6_foresee_9 : decode cX6_foresee 9 = .ok (.invokestatic 42, 3) := by decide +kernel
theorem dX6_foresee_12 : decode cX6_foresee 12 = .ok (.ifCond .ne 9, 3) := by decide +kernel
theorem dX6_foresee_15 : decode cX6_foresee 15 = .ok (.aload_n 0, 1) := by decide +kernel
theorem dX6_foresee_16 : decode cX6_foresee 16 = .ok (.iconst 1, 1) := by decide +kernel
theorem dX6_foresee_17 : decode cX6_foresee 17 = .ok (.invokevirtual 88, 3) := by decide +kernel
theorem dX6_foresee_20 : decode cX6_foresee 20 = .ok (.ireturn, 1) := by decide +kernel
theorem dX6_foresee_21 : decode cX6_foresee 21 = .ok (.iload_n 2, 1) := by decide +kernel
theorem dX6_foresee_22 : decode cX6_foresee 22 = .ok (.iconst 0, 1) := by decide +kernel
theorem dX6_foresee_23 : decode cX6_foresee 23 = .ok (.iconst 2, 1) := by decide +kernel
theorem dX6_foresee_24 : decode cX6_foresee 24 = .ok (.invokestatic 42, 3) := by decide +kernel
theorem dX6_foresee_27 : decode cX6_foresee 27 = .ok (.ifCond .ne 9, 3) := by decide +kernel
theorem dX6_foresee_30 : decode cX6_foresee 30 = .ok (.aload_n 0, 1) := by decide +kernel
theorem dX6_foresee_31 : decode cX6_foresee 31 = .ok (.iconst 2, 1) := by decide +kernel
theorem dX6_foresee_32 : decode cX6_foresee 32 = .ok (.invokevirtual 88, 3) := by decide +kernel
theorem dX6_foresee_35 : decode cX6_foresee 35 = .ok (.ireturn, 1) := by decide +kernel
theorem dX6_foresee_36 : decode cX6_foresee 36 = .ok (.aload_n 0, 1) := by decide +kernel
theorem dX6_foresee_37 : decode cX6_foresee 37 = .ok (.invokevirtual 174, 3) := by decide +kernel
theorem dX6_foresee_40 : decode cX6_foresee 40 = .ok (.astore_n 3, 1) := by decide +kernel
theorem dX6_foresee_41 : decode cX6_foresee 41 = .ok (.iconst 0, 1) := by decide +kernel
theorem dX6_foresee_42 : decode cX6_foresee 42 = .ok (.istore 4, 2) := by decide +kernel
theorem dX6_foresee_44 : decode cX6_foresee 44 = .ok (.iload 4, 2) := by decide +kernel
theorem dX6_foresee_46 : decode cX6_foresee 46 = .ok (.iload_n 1, 1) := by decide +kernel
theorem dX6_foresee_47 : decode cX6_foresee 47 = .ok (.if_icmp .ge 14, 3) := by decide +kernel
theorem dX6_foresee_50 : decode cX6_foresee 50 = .ok (.aload_n 0, 1) := by decide +kernel
theorem dX6_foresee_51 : decode cX6_foresee 51 = .ok (.invokevirtual 163, 3) := by decide +kernel
theorem dX6_foresee_54 : decode cX6_foresee 54 = .ok (.pop, 1) := by decide +kernel
theorem dX6_foresee_55 : decode cX6_foresee 55 = .ok (.iinc 4 1, 3) := by decide +kernel
theorem dX6_foresee_58 : decode cX6_foresee 58 = .ok (.goto (-14), 3) := by decide +kernel
theorem dX6_foresee_61 : decode cX6_foresee 61 = .ok (.iload_n 2, 1) := by decide +kernel
theorem dX6_foresee_62 : decode cX6_foresee 62 = .ok (.ifCond .ne 11, 3) := by decide +kernel
theorem dX6_foresee_65 : decode cX6_foresee 65 = .ok (.aload_n 0, 1) := by decide +kernel
theorem dX6_foresee_66 : decode cX6_foresee 66 = .ok (.iconst 1, 1) := by decide +kernel
theorem dX6_foresee_67 : decode cX6_foresee 67 = .ok (.invokevirtual 107, 3) := by decide +kernel
theorem dX6_foresee_70 : decode cX6_foresee 70 = .ok (.goto 22, 3) := by decide +kernel
theorem dX6_foresee_73 : decode cX6_foresee 73 = .ok (.iload_n 2, 1) := by decide +kernel
theorem dX6_foresee_74 : decode cX6_foresee 74 = .ok (.iconst 1, 1) := by decide +kernel
theorem dX6_foresee_75 : decode cX6_foresee 75 = .ok (.if_icmp .ne 11, 3) := by decide +kernel
theorem dX6_foresee_78 : decode cX6_foresee 78 = .ok (.aload_n 0, 1) := by decide +kernel
theorem dX6_foresee_79 : decode cX6_foresee 79 = .ok (.iconst 3, 1) := by decide +kernel
theorem dX6_foresee_80 : decode cX6_foresee 80 = .ok (.invokevirtual 107, 3) := by decide +kernel
theorem dX6_foresee_83 : decode cX6_foresee 83 = .ok (.goto 9, 3) := by decide +kernel
theorem dX6_foresee_86 : decode cX6_foresee 86 = .ok (.aload_n 0, 1) := by decide +kernel
theorem dX6_foresee_87 : decode cX6_foresee 87 = .ok (.bipush 8, 2) := by decide +kernel
theorem dX6_foresee_89 : decode cX6_foresee 89 = .ok (.invokevirtual 166, 3) := by decide +kernel
theorem dX6_foresee_92 : decode cX6_foresee 92 = .ok (.istore 4, 2) := by decide +kernel
theorem dX6_foresee_94 : decode cX6_foresee 94 = .ok (.aload_n 0, 1) := by decide +kernel
theorem dX6_foresee_95 : decode cX6_foresee 95 = .ok (.aload_n 3, 1) := by decide +kernel
theorem dX6_foresee_96 : decode cX6_foresee 96 = .ok (.invokevirtual 178, 3) := by decide +kernel
theorem dX6_foresee_99 : decode cX6_foresee 99 = .ok (.iload 4, 2) := by decide +kernel
theorem dX6_foresee_101 : decode cX6_foresee 101 = .ok (.ireturn, 1) := by decide +kernel
theorem dX6_lasts_0 : decode cX6_lasts 0 = .ok (.aload_n 0, 1) := by decide +kernel
theorem dX6_lasts_1 : decode cX6_lasts 1 = .ok (.iconst 0, 1) := by decide +kernel
theorem dX6_lasts_2 : decode cX6_lasts 2 = .ok (.putfield 38, 3) := by decide +kernel
theorem dX6_lasts_5 : decode cX6_lasts 5 = .ok (.aload_n 0, 1) := by decide +kernel
theorem dX6_lasts_6 : decode cX6_lasts 6 = .ok (.invokevirtual 174, 3) := by decide +kernel
theorem dX6_lasts_9 : decode cX6_lasts 9 = .ok (.astore_n 1, 1) := by decide +kernel
theorem dX6_lasts_10 : decode cX6_lasts 10 = .ok (.iconst 0, 1) := by decide +kernel
theorem dX6_lasts_11 : decode cX6_lasts 11 = .ok (.istore_n 2, 1) := by decide +kernel
theorem dX6_lasts_12 : decode cX6_lasts 12 = .ok (.iload_n 2, 1) := by decide +kernel
theorem dX6_lasts_13 : decode cX6_lasts 13 = .ok (.sipush 200, 3) := by decide +kernel
theorem dX6_lasts_16 : decode cX6_lasts 16 = .ok (.if_icmp .ge 22, 3) := by decide +kernel
theorem dX6_lasts_19 : decode cX6_lasts 19 = .ok (.aload_n 0, 1) := by decide +kernel
theorem dX6_lasts_20 : decode cX6_lasts 20 = .ok (.iconst 1, 1) := by decide +kernel
theorem dX6_lasts_21 : decode cX6_lasts 21 = .ok (.invokevirtual 107, 3) := by decide +kernel
theorem dX6_lasts_24 : decode cX6_lasts 24 = .ok (.ifCond .le 14, 3) := by decide +kernel
theorem dX6_lasts_27 : decode cX6_lasts 27 = .ok (.aload_n 0, 1) := by decide +kernel
theorem dX6_lasts_28 : decode cX6_lasts 28 = .ok (.invokevirtual 163, 3) := by decide +kernel
theorem dX6_lasts_31 : decode cX6_lasts 31 = .ok (.pop, 1) := by decide +kernel
theorem dX6_lasts_32 : decode cX6_lasts 32 = .ok (.iinc 2 1, 3) := by decide +kernel
theorem dX6_lasts_35 : decode cX6_lasts 35 = .ok (.goto (-23), 3) := by decide +kernel
theorem dX6_lasts_38 : decode cX6_lasts 38 = .ok (.aload_n 0, 1) := by decide +kernel
theorem dX6_lasts_39 : decode cX6_lasts 39 = .ok (.iconst 1, 1) := by decide +kernel
theorem dX6_lasts_40 : decode cX6_lasts 40 = .ok (.invokevirtual 107, 3) := by decide +kernel
theorem dX6_lasts_43 : decode cX6_lasts 43 = .ok (.ifCond .le 5, 3) := by decide +kernel
theorem dX6_lasts_46 : decode cX6_lasts 46 = .ok (.iconst (-1), 1) := by decide +kernel
theorem dX6_lasts_47 : decode cX6_lasts 47 = .ok (.istore_n 2, 1) := by decide +kernel
theorem dX6_lasts_48 : decode cX6_lasts 48 = .ok (.aload_n 0, 1) := by decide +kernel
theorem dX6_lasts_49 : decode cX6_lasts 49 = .ok (.aload_n 1, 1) := by decide +kernel
theorem dX6_lasts_50 : decode cX6_lasts 50 = .ok (.invokevirtual 178, 3) := by decide +kernel
theorem dX6_lasts_53 : decode cX6_lasts 53 = .ok (.iload_n 2, 1) := by decide +kernel
theorem dX6_lasts_54 : decode cX6_lasts 54 = .ok (.ireturn, 1) := by decide +kernel
theorem dX6_weakest_0 : decode cX6_weakest 0 = .ok (.aload_n 0, 1) := by decide +kernel
theorem dX6_weakest_1 : decode cX6_weakest 1 = .ok (.iconst 0, 1) := by decide +kernel
theorem dX6_weakest_2 : decode cX6_weakest 2 = .ok (.putfield 38, 3) := by decide +kernel
theorem dX6_weakest_5 : decode cX6_weakest 5 = .ok (.aload_n 0, 1) := by decide +kernel
theorem dX6_weakest_6 : decode cX6_weakest 6 = .ok (.iload_n 1, 1) := by decide +kernel
theorem dX6_weakest_7 : decode cX6_weakest 7 = .ok (.invokevirtual 116, 3) := by decide +kernel
theorem dX6_weakest_10 : decode cX6_weakest 10 = .ok (.ifCond .ne 9, 3) := by decide +kernel
theorem dX6_weakest_13 : decode cX6_weakest 13 = .ok (.aload_n 0, 1) := by decide +kernel
theorem dX6_weakest_14 : decode cX6_weakest 14 = .ok (.iconst 1, 1) := by decide +kernel
theorem dX6_weakest_15 : decode cX6_weakest 15 = .ok (.invokevirtual 88, 3) := by decide +kernel
theorem dX6_weakest_18 : decode cX6_weakest 18 = .ok (.ireturn, 1) := by decide +kernel
theorem dX6_weakest_19 : decode cX6_weakest 19 = .ok (.iconst (-1), 1) := by decide +kernel
theorem dX6_weakest_20 : decode cX6_weakest 20 = .ok (.istore_n 2, 1) := by decide +kernel
theorem dX6_weakest_21 : decode cX6_weakest 21 = .ok (.iconst 0, 1) := by decide +kernel
theorem dX6_weakest_22 : decode cX6_weakest 22 = .ok (.istore_n 3, 1) := by decide +kernel
theorem dX6_weakest_23 : decode cX6_weakest 23 = .ok (.iload_n 3, 1) := by decide +kernel
theorem dX6_weakest_24 : decode cX6_weakest 24 = .ok (.aload_n 0, 1) := by decide +kernel
theorem dX6_weakest_25 : decode cX6_weakest 25 = .ok (.getfield 62, 3) := by decide +kernel
theorem dX6_weakest_28 : decode cX6_weakest 28 = .ok (.if_icmp .ge 38, 3) := by decide +kernel
theorem dX6_weakest_31 : decode cX6_weakest 31 = .ok (.aload_n 0, 1) := by decide +kernel
theorem dX6_weakest_32 : decode cX6_weakest 32 = .ok (.iload_n 3, 1) := by decide +kernel
theorem dX6_weakest_33 : decode cX6_weakest 33 = .ok (.iload_n 1, 1) := by decide +kernel
theorem dX6_weakest_34 : decode cX6_weakest 34 = .ok (.invokevirtual 131, 3) := by decide +kernel
theorem dX6_weakest_37 : decode cX6_weakest 37 = .ok (.ifCond .eq 23, 3) := by decide +kernel
theorem dX6_weakest_40 : decode cX6_weakest 40 = .ok (.iload_n 2, 1) := by decide +kernel
theorem dX6_weakest_41 : decode cX6_weakest 41 = .ok (.iconst (-1), 1) := by decide +kernel
theorem dX6_weakest_42 : decode cX6_weakest 42 = .ok (.if_icmp .eq 16, 3) := by decide +kernel
theorem dX6_weakest_45 : decode cX6_weakest 45 = .ok (.aload_n 0, 1) := by decide +kernel
theorem dX6_weakest_46 : decode cX6_weakest 46 = .ok (.iload_n 3, 1) := by decide +kernel
theorem dX6_weakest_47 : decode cX6_weakest 47 = .ok (.invokevirtual 137, 3) := by decide +kernel
theorem dX6_weakest_50 : decode cX6_weakest 50 = .ok (.aload_n 0, 1) := by decide +kernel
theorem dX6_weakest_51 : decode cX6_weakest 51 = .ok (.iload_n 2, 1) := by decide +kernel
theorem dX6_weakest_52 : decode cX6_weakest 52 = .ok (.invokevirtual 137, 3) := by decide +kernel
theorem dX6_weakest_55 : decode cX6_weakest 55 = .ok (.if_icmp .ge 5, 3) := by decide +kernel
theorem dX6_weakest_58 : decode cX6_weakest 58 = .ok (.iload_n 3, 1) := by decide +kernel
theorem dX6_weakest_59 : decode cX6_weakest 59 = .ok (.istore_n 2, 1) := by decide +kernel
theorem dX6_weakest_60 : decode cX6_weakest 60 = .ok (.iinc 3 1, 3) := by decide +kernel
theorem dX6_weakest_63 : decode cX6_weakest 63 = .ok (.goto (-40), 3) := by decide +kernel
theorem dX6_weakest_66 : decode cX6_weakest 66 = .ok (.iload_n 2, 1) := by decide +kernel
theorem dX6_weakest_67 : decode cX6_weakest 67 = .ok (.ireturn, 1) := by decide +kernel
theorem dX6_advise_0 : decode cX6_advise 0 = .ok (.aload_n 0, 1) := by decide +kernel
theorem dX6_advise_1 : decode cX6_advise 1 = .ok (.iconst 0, 1) := by decide +kernel
theorem dX6_advise_2 : decode cX6_advise 2 = .ok (.putfield 38, 3) := by decide +kernel
theorem dX6_advise_5 : decode cX6_advise 5 = .ok (.aload_n 0, 1) := by decide +kernel
theorem dX6_advise_6 : decode cX6_advise 6 = .ok (.iload_n 1, 1) := by decide +kernel
theorem dX6_advise_7 : decode cX6_advise 7 = .ok (.invokevirtual 116, 3) := by decide +kernel
theorem dX6_advise_10 : decode cX6_advise 10 = .ok (.ifCond .ne 9, 3) := by decide +kernel
theorem dX6_advise_13 : decode cX6_advise 13 = .ok (.aload_n 0, 1) := by decide +kernel
theorem dX6_advise_14 : decode cX6_advise 14 = .ok (.iconst 1, 1) := by decide +kernel
theorem dX6_advise_15 : decode cX6_advise 15 = .ok (.invokevirtual 88, 3) := by decide +kernel
theorem dX6_advise_18 : decode cX6_advise 18 = .ok (.ireturn, 1) := by decide +kernel
theorem dX6_advise_19 : decode cX6_advise 19 = .ok (.iload_n 2, 1) := by decide +kernel
theorem dX6_advise_20 : decode cX6_advise 20 = .ok (.iconst 1, 1) := by decide +kernel
theorem dX6_advise_21 : decode cX6_advise 21 = .ok (.bipush 50, 2) := by decide +kernel
theorem dX6_advise_23 : decode cX6_advise 23 = .ok (.invokestatic 42, 3) := by decide +kernel
theorem dX6_advise_26 : decode cX6_advise 26 = .ok (.ifCond .ne 9, 3) := by decide +kernel
theorem dX6_advise_29 : decode cX6_advise 29 = .ok (.aload_n 0, 1) := by decide +kernel
theorem dX6_advise_30 : decode cX6_advise 30 = .ok (.iconst 2, 1) := by decide +kernel
theorem dX6_advise_31 : decode cX6_advise 31 = .ok (.invokevirtual 88, 3) := by decide +kernel
theorem dX6_advise_34 : decode cX6_advise 34 = .ok (.ireturn, 1) := by decide +kernel
theorem dX6_advise_35 : decode cX6_advise 35 = .ok (.iconst (-1), 1) := by decide +kernel
theorem dX6_advise_36 : decode cX6_advise 36 = .ok (.istore_n 3, 1) := by decide +kernel
theorem dX6_advise_37 : decode cX6_advise 37 = .ok (.bipush 31, 2) := by decide +kernel
theorem dX6_advise_39 : decode cX6_advise 39 = .ok (.istore 4, 2) := by decide +kernel
theorem dX6_advise_41 : decode cX6_advise 41 = .ok (.aload_n 0, 1) := by decide +kernel
theorem dX6_advise_42 : decode cX6_advise 42 = .ok (.invokevirtual 174, 3) := by decide +kernel
theorem dX6_advise_45 : decode cX6_advise 45 = .ok (.astore 5, 2) := by decide +kernel
theorem dX6_advise_47 : decode cX6_advise 47 = .ok (.iconst 0, 1) := by decide +kernel
theorem dX6_advise_48 : decode cX6_advise 48 = .ok (.istore 6, 2) := by decide +kernel
theorem dX6_advise_50 : decode cX6_advise 50 = .ok (.iload 6, 2) := by decide +kernel
theorem dX6_advise_52 : decode cX6_advise 52 = .ok (.aload_n 0, 1) := by decide +kernel
theorem dX6_advise_53 : decode cX6_advise 53 = .ok (.getfield 59, 3) := by decide +kernel
theorem dX6_advise_56 : decode cX6_advise 56 = .ok (.if_icmp .ge 114, 3) := by decide +kernel
theorem dX6_advise_59 : decode cX6_advise 59 = .ok (.aload_n 0, 1) := by decide +kernel
theorem dX6_advise_60 : decode cX6_advise 60 = .ok (.iload_n 1, 1) := by decide +kernel
theorem dX6_advise_61 : decode cX6_advise 61 = .ok (.invokevirtual 128, 3) := by decide +kernel
theorem dX6_advise_64 : decode cX6_advise 64 = .ok (.ifCond .eq 106, 3) := by decide +kernel
theorem dX6_advise_67 : decode cX6_advise 67 = .ok (.aload_n 0, 1) := by decide +kernel
theorem dX6_advise_68 : decode cX6_advise 68 = .ok (.iload 6, 2) := by decide +kernel
theorem dX6_advise_70 : decode cX6_advise 70 = .ok (.iconst 3, 1) := by decide +kernel
theorem dX6_advise_71 : decode cX6_advise 71 = .ok (.invokevirtual 65, 3) := by decide +kernel
theorem dX6_advise_74 : decode cX6_advise 74 = .ok (.iconst 1, 1) := by decide +kernel
theorem dX6_advise_75 : decode cX6_advise 75 = .ok (.if_icmp .ne 89, 3) := by decide +kernel
theorem dX6_advise_78 : decode cX6_advise 78 = .ok (.aload_n 0, 1) := by decide +kernel
theorem dX6_advise_79 : decode cX6_advise 79 = .ok (.iload_n 1, 1) := by decide +kernel
theorem dX6_advise_80 : decode cX6_advise 80 = .ok (.iconst 0, 1) := by decide +kernel
theorem dX6_advise_81 : decode cX6_advise 81 = .ok (.invokevirtual 81, 3) := by decide +kernel
theorem dX6_advise_84 : decode cX6_advise 84 = .ok (.aload_n 0, 1) := by decide +kernel
theorem dX6_advise_85 : decode cX6_advise 85 = .ok (.iload 6, 2) := by decide +kernel
theorem dX6_advise_87 : decode cX6_advise 87 = .ok (.iconst 0, 1) := by decide +kernel
theorem dX6_advise_88 : decode cX6_advise 88 = .ok (.invokevirtual 65, 3) := by decide +kernel
theorem dX6_advise_91 : decode cX6_advise 91 = .ok (.invokestatic 125, 3) := by decide +kernel
theorem dX6_advise_94 : decode cX6_advise 94 = .ok (.bipush 6, 2) := by decide +kernel
theorem dX6_advise_96 : decode cX6_advise 96 = .ok (.if_icmp .le 6, 3) := by decide +kernel
theorem dX6_advise_99 : decode cX6_advise 99 = .ok (.goto 65, 3) := by decide +kernel
theorem dX6_advise_102 : decode cX6_advise 102 = .ok (.aload_n 0, 1) := by decide +kernel
theorem dX6_advise_103 : decode cX6_advise 103 = .ok (.iload_n 1, 1) := by decide +kernel
theorem dX6_advise_104 : decode cX6_advise 104 = .ok (.bipush 7, 2) := by decide +kernel
theorem dX6_advise_106 : decode cX6_advise 106 = .ok (.bipush 100, 2) := by decide +kernel
theorem dX6_advise_108 : decode cX6_advise 108 = .ok (.iload 6, 2) := by decide +kernel
theorem dX6_advise_110 : decode cX6_advise 110 = .ok (.iadd, 1) := by decide +kernel
theorem dX6_advise_111 : decode cX6_advise 111 = .ok (.invokevirtual 119, 3) := by decide +kernel
theorem dX6_advise_114 : decode cX6_advise 114 = .ok (.iconst 0, 1) := by decide +kernel
theorem dX6_advise_115 : decode cX6_advise 115 = .ok (.istore 7, 2) := by decide +kernel
theorem dX6_advise_117 : decode cX6_advise 117 = .ok (.iload 7, 2) := by decide +kernel
theorem dX6_advise_119 : decode cX6_advise 119 = .ok (.iload_n 2, 1) := by decide +kernel
theorem dX6_advise_120 : decode cX6_advise 120 = .ok (.if_icmp .ge 14, 3) := by decide +kernel
theorem dX6_advise_123 : decode cX6_advise 123 = .ok (.aload_n 0, 1) := by decide +kernel
theorem dX6_advise_124 : decode cX6_advise 124 = .ok (.invokevirtual 163, 3) := by decide +kernel
theorem dX6_advise_127 : decode cX6_advise 127 = .ok (.pop, 1) := by decide +kernel
theorem dX6_advise_128 : decode cX6_advise 128 = .ok (.iinc 7 1, 3) := by decide +kernel
theorem dX6_advise_131 : decode cX6_advise 131 = .ok (.goto (-14), 3) := by decide +kernel
theorem dX6_advise_134 : decode cX6_advise 134 = .ok (.aload_n 0, 1) := by decide +kernel
theorem dX6_advise_135 : decode cX6_advise 135 = .ok (.iconst 3, 1) := by decide +kernel
theorem dX6_advise_136 : decode cX6_advise 136 = .ok (.invokevirtual 107, 3) := by decide +kernel
theorem dX6_advise_139 : decode cX6_advise 139 = .ok (.istore 7, 2) := by decide +kernel
theorem dX6_advise_141 : decode cX6_advise 141 = .ok (.aload_n 0, 1) := by decide +kernel
theorem dX6_advise_142 : decode cX6_advise 142 = .ok (.aload 5, 2) := by decide +kernel
theorem dX6_advise_144 : decode cX6_advise 144 = .ok (.invokevirtual 178, 3) := by decide +kernel
theorem dX6_advise_147 : decode cX6_advise 147 = .ok (.iload 7, 2) := by decide +kernel
theorem dX6_advise_149 : decode cX6_advise 149 = .ok (.iload 4, 2) := by decide +kernel
theorem dX6_advise_151 : decode cX6_advise 151 = .ok (.if_icmp .lt 6, 3) := by decide +kernel
theorem dX6_advise_154 : decode cX6_advise 154 = .ok (.goto 10, 3) := by decide +kernel
theorem dX6_advise_157 : decode cX6_advise 157 = .ok (.iload 6, 2) := by decide +kernel
theorem dX6_advise_159 : decode cX6_advise 159 = .ok (.istore_n 3, 1) := by decide +kernel
theorem dX6_advise_160 : decode cX6_advise 160 = .ok (.iload 7, 2) := by decide +kernel
theorem dX6_advise_162 : decode cX6_advise 162 = .ok (.istore 4, 2) := by decide +kernel
theorem dX6_advise_164 : decode cX6_advise 164 = .ok (.iinc 6 1, 3) := by decide +kernel
theorem dX6_advise_167 : decode cX6_advise 167 = .ok (.goto (-117), 3) := by decide +kernel
theorem dX6_advise_170 : decode cX6_advise 170 = .ok (.iload_n 3, 1) := by decide +kernel
theorem dX6_advise_171 : decode cX6_advise 171 = .ok (.ireturn, 1) := by decide +kernel
theorem dX6_walls_0 : decode cX6_walls 0 = .ok (.aload_n 0, 1) := by decide +kernel
theorem dX6_walls_1 : decode cX6_walls 1 = .ok (.iconst 0, 1) := by decide +kernel
theorem dX6_walls_2 : decode cX6_walls 2 = .ok (.putfield 38, 3) := by decide +kernel
theorem dX6_walls_5 : decode cX6_walls 5 = .ok (.iconst 0, 1) := by decide +kernel
theorem dX6_walls_6 : decode cX6_walls 6 = .ok (.istore_n 1, 1) := by decide +kernel
theorem dX6_walls_7 : decode cX6_walls 7 = .ok (.iconst 0, 1) := by decide +kernel
theorem dX6_walls_8 : decode cX6_walls 8 = .ok (.istore_n 2, 1) := by decide +kernel
theorem dX6_walls_9 : decode cX6_walls 9 = .ok (.iload_n 2, 1) := by decide +kernel
theorem dX6_walls_10 : decode cX6_walls 10 = .ok (.aload_n 0, 1) := by decide +kernel
theorem dX6_walls_11 : decode cX6_walls 11 = .ok (.getfield 59, 3) := by decide +kernel
theorem dX6_walls_14 : decode cX6_walls 14 = .ok (.if_icmp .ge 18, 3) := by decide +kernel
theorem dX6_walls_17 : decode cX6_walls 17 = .ok (.iload_n 1, 1) := by decide +kernel
theorem dX6_walls_18 : decode cX6_walls 18 = .ok (.aload_n 0, 1) := by decide +kernel
theorem dX6_walls_19 : decode cX6_walls 19 = .ok (.iload_n 2, 1) := by decide +kernel
theorem dX6_walls_20 : decode cX6_walls 20 = .ok (.iconst 2, 1) := by decide +kernel
theorem dX6_walls_21 : decode cX6_walls 21 = .ok (.invokevirtual 65, 3) := by decide +kernel
theorem dX6_walls_24 : decode cX6_walls 24 = .ok (.iadd, 1) := by decide +kernel
theorem dX6_walls_25 : decode cX6_walls 25 = .ok (.istore_n 1, 1) := by decide +kernel
theorem dX6_walls_26 : decode cX6_walls 26 = .ok (.iinc 2 1, 3) := by decide +kernel
theorem dX6_walls_29 : decode cX6_walls 29 = .ok (.goto (-20), 3) := by decide +kernel
theorem dX6_walls_32 : decode cX6_walls 32 = .ok (.aload_n 0, 1) := by decide +kernel
theorem dX6_walls_33 : decode cX6_walls 33 = .ok (.getfield 59, 3) := by decide +kernel
theorem dX6_walls_36 : decode cX6_walls 36 = .ok (.ifCond .ne 7, 3) := by decide +kernel
theorem dX6_walls_39 : decode cX6_walls 39 = .ok (.dconst 0, 1) := by decide +kernel
theorem dX6_walls_40 : decode cX6_walls 40 = .ok (.goto 11, 3) := by decide +kernel
theorem dX6_walls_43 : decode cX6_walls 43 = .ok (.iload_n 1, 1) := by decide +kernel
theorem dX6_walls_44 : decode cX6_walls 44 = .ok (.i2d, 1) := by decide +kernel
theorem dX6_walls_45 : decode cX6_walls 45 = .ok (.aload_n 0, 1) := by decide +kernel
theorem dX6_walls_46 : decode cX6_walls 46 = .ok (.getfield 59, 3) := by decide +kernel
theorem dX6_walls_49 : decode cX6_walls 49 = .ok (.i2d, 1) := by decide +kernel
theorem dX6_walls_50 : decode cX6_walls 50 = .ok (.ddiv, 1) := by decide +kernel
theorem dX6_walls_51 : decode cX6_walls 51 = .ok (.dreturn, 1) := by decide +kernel
theorem dX6_digest_0 : decode cX6_digest 0 = .ok (.aload_n 0, 1) := by decide +kernel
theorem dX6_digest_1 : decode cX6_digest 1 = .ok (.iconst 0, 1) := by decide +kernel
theorem dX6_digest_2 : decode cX6_digest 2 = .ok (.putfield 38, 3) := by decide +kernel
theorem dX6_digest_5 : decode cX6_digest 5 = .ok (.ldc2_w 182, 3) := by decide +kernel
theorem dX6_digest_8 : decode cX6_digest 8 = .ok (.lstore_n 1, 1) := by decide +kernel
theorem dX6_digest_9 : decode cX6_digest 9 = .ok (.iconst 0, 1) := by decide +kernel
theorem dX6_digest_10 : decode cX6_digest 10 = .ok (.istore_n 3, 1) := by decide +kernel
theorem dX6_digest_11 : decode cX6_digest 11 = .ok (.iload_n 3, 1) := by decide +kernel
theorem dX6_digest_12 : decode cX6_digest 12 = .ok (.bipush 10, 2) := by decide +kernel
theorem dX6_digest_14 : decode cX6_digest 14 = .ok (.if_icmp .ge 22, 3) := by decide +kernel
theorem dX6_digest_17 : decode cX6_digest 17 = .ok (.lload_n 1, 1) := by decide +kernel
theorem dX6_digest_18 : decode cX6_digest 18 = .ok (.ldc2_w 184, 3) := by decide +kernel
theorem dX6_digest_21 : decode cX6_digest 21 = .ok (.lmul, 1) := by decide +kernel
theorem dX6_digest_22 : decode cX6_digest 22 = .ok (.aload_n 0, 1) := by decide +kernel
theorem dX6_digest_23 : decode cX6_digest 23 = .ok (.iload_n 3, 1) := by decide +kernel
theorem dX6_digest_24 : decode cX6_digest 24 = .ok (.invokevirtual 166, 3) := by decide +kernel
theorem dX6_digest_27 : decode cX6_digest 27 = .ok (.i2l, 1) := by decide +kernel
theorem dX6_digest_28 : decode cX6_digest 28 = .ok (.ladd, 1) := by decide +kernel
theorem dX6_digest_29 : decode cX6_digest 29 = .ok (.lstore_n 1, 1) := by decide +kernel
theorem dX6_digest_30 : decode cX6_digest 30 = .ok (.iinc 3 1, 3) := by decide +kernel
theorem dX6_digest_33 : decode cX6_digest 33 = .ok (.goto (-22), 3) := by decide +kernel
theorem dX6_digest_36 : decode cX6_digest 36 = .ok (.iconst 0, 1) := by decide +kernel
theorem dX6_digest_37 : decode cX6_digest 37 = .ok (.istore_n 3, 1) := by decide +kernel
theorem dX6_digest_38 : decode cX6_digest 38 = .ok (.iload_n 3, 1) := by decide +kernel
theorem dX6_digest_39 : decode cX6_digest 39 = .ok (.aload_n 0, 1) := by decide +kernel
theorem dX6_digest_40 : decode cX6_digest 40 = .ok (.getfield 59, 3) := by decide +kernel
theorem dX6_digest_43 : decode cX6_digest 43 = .ok (.if_icmp .ge 40, 3) := by decide +kernel
theorem dX6_digest_46 : decode cX6_digest 46 = .ok (.iconst 0, 1) := by decide +kernel
theorem dX6_digest_47 : decode cX6_digest 47 = .ok (.istore 4, 2) := by decide +kernel
theorem dX6_digest_49 : decode cX6_digest 49 = .ok (.iload 4, 2) := by decide +kernel
theorem dX6_digest_51 : decode cX6_digest 51 = .ok (.bipush 7, 2) := by decide +kernel
theorem dX6_digest_53 : decode cX6_digest 53 = .ok (.if_icmp .ge 24, 3) := by decide +kernel
theorem dX6_digest_56 : decode cX6_digest 56 = .ok (.lload_n 1, 1) := by decide +kernel
theorem dX6_digest_57 : decode cX6_digest 57 = .ok (.ldc2_w 184, 3) := by decide +kernel
theorem dX6_digest_60 : decode cX6_digest 60 = .ok (.lmul, 1) := by decide +kernel
theorem dX6_digest_61 : decode cX6_digest 61 = .ok (.aload_n 0, 1) := by decide +kernel
theorem dX6_digest_62 : decode cX6_digest 62 = .ok (.iload_n 3, 1) := by decide +kernel
theorem dX6_digest_63 : decode cX6_digest 63 = .ok (.iload 4, 2) := by decide +kernel
theorem dX6_digest_65 : decode cX6_digest 65 = .ok (.invokevirtual 65, 3) := by decide +kernel
theorem dX6_digest_68 : decode cX6_digest 68 = .ok (.i2l, 1) := by decide +kernel
theorem dX6_digest_69 : decode cX6_digest 69 = .ok (.ladd, 1) := by decide +kernel
theorem dX6_digest_70 : decode cX6_digest 70 = .ok (.lstore_n 1, 1) := by decide +kernel
theorem dX6_digest_71 : decode cX6_digest 71 = .ok (.iinc 4 1, 3) := by decide +kernel
theorem dX6_digest_74 : decode cX6_digest 74 = .ok (.goto (-25), 3) := by decide +kernel
theorem dX6_digest_77 : decode cX6_digest 77 = .ok (.iinc 3 1, 3) := by decide +kernel
theorem dX6_digest_80 : decode cX6_digest 80 = .ok (.goto (-42), 3) := by decide +kernel
theorem dX6_digest_83 : decode cX6_digest 83 = .ok (.iconst 0, 1) := by decide +kernel
theorem dX6_digest_84 : decode cX6_digest 84 = .ok (.istore_n 3, 1) := by decide +kernel
theorem dX6_digest_85 : decode cX6_digest 85 = .ok (.iload_n 3, 1) := by decide +kernel
theorem dX6_digest_86 : decode cX6_digest 86 = .ok (.aload_n 0, 1) := by decide +kernel
theorem dX6_digest_87 : decode cX6_digest 87 = .ok (.getfield 68, 3) := by decide +kernel
theorem dX6_digest_90 : decode cX6_digest 90 = .ok (.if_icmp .ge 35, 3) := by decide +kernel
theorem dX6_digest_93 : decode cX6_digest 93 = .ok (.lload_n 1, 1) := by decide +kernel
theorem dX6_digest_94 : decode cX6_digest 94 = .ok (.ldc2_w 184, 3) := by decide +kernel
theorem dX6_digest_97 : decode cX6_digest 97 = .ok (.lmul, 1) := by decide +kernel
theorem dX6_digest_98 : decode cX6_digest 98 = .ok (.aload_n 0, 1) := by decide +kernel
theorem dX6_digest_99 : decode cX6_digest 99 = .ok (.getfield 9, 3) := by decide +kernel
theorem dX6_digest_102 : decode cX6_digest 102 = .ok (.iload_n 3, 1) := by decide +kernel
theorem dX6_digest_103 : decode cX6_digest 103 = .ok (.iaload, 1) := by decide +kernel
theorem dX6_digest_104 : decode cX6_digest 104 = .ok (.i2l, 1) := by decide +kernel
theorem dX6_digest_105 : decode cX6_digest 105 = .ok (.ladd, 1) := by decide +kernel
theorem dX6_digest_106 : decode cX6_digest 106 = .ok (.ldc2_w 184, 3) := by decide +kernel
theorem dX6_digest_109 : decode cX6_digest 109 = .ok (.lmul, 1) := by decide +kernel
theorem dX6_digest_110 : decode cX6_digest 110 = .ok (.aload_n 0, 1) := by decide +kernel
theorem dX6_digest_111 : decode cX6_digest 111 = .ok (.getfield 13, 3) := by decide +kernel
theorem dX6_digest_114 : decode cX6_digest 114 = .ok (.iload_n 3, 1) := by decide +kernel
theorem dX6_digest_115 : decode cX6_digest 115 = .ok (.iaload, 1) := by decide +kernel
theorem dX6_digest_116 : decode cX6_digest 116 = .ok (.i2l, 1) := by decide +kernel
theorem dX6_digest_117 : decode cX6_digest 117 = .ok (.ladd, 1) := by decide +kernel
theorem dX6_digest_118 : decode cX6_digest 118 = .ok (.lstore_n 1, 1) := by decide +kernel
theorem dX6_digest_119 : decode cX6_digest 119 = .ok (.iinc 3 1, 3) := by decide +kernel
theorem dX6_digest_122 : decode cX6_digest 122 = .ok (.goto (-37), 3) := by decide +kernel
theorem dX6_digest_125 : decode cX6_digest 125 = .ok (.iconst 0, 1) := by decide +kernel
theorem dX6_digest_126 : decode cX6_digest 126 = .ok (.istore_n 3, 1) := by decide +kernel
theorem dX6_digest_127 : decode cX6_digest 127 = .ok (.iload_n 3, 1) := by decide +kernel
theorem dX6_digest_128 : decode cX6_digest 128 = .ok (.aload_n 0, 1) := by decide +kernel
theorem dX6_digest_129 : decode cX6_digest 129 = .ok (.getfield 62, 3) := by decide +kernel
theorem dX6_digest_132 : decode cX6_digest 132 = .ok (.if_icmp .ge 40, 3) := by decide +kernel
theorem dX6_digest_135 : decode cX6_digest 135 = .ok (.iconst 0, 1) := by decide +kernel
theorem dX6_digest_136 : decode cX6_digest 136 = .ok (.istore 4, 2) := by decide +kernel
theorem dX6_digest_138 : decode cX6_digest 138 = .ok (.iload 4, 2) := by decide +kernel
theorem dX6_digest_140 : decode cX6_digest 140 = .ok (.bipush 10, 2) := by decide +kernel
theorem dX6_digest_142 : decode cX6_digest 142 = .ok (.if_icmp .ge 24, 3) := by decide +kernel
theorem dX6_digest_145 : decode cX6_digest 145 = .ok (.lload_n 1, 1) := by decide +kernel
theorem dX6_digest_146 : decode cX6_digest 146 = .ok (.ldc2_w 184, 3) := by decide +kernel
theorem dX6_digest_149 : decode cX6_digest 149 = .ok (.lmul, 1) := by decide +kernel
theorem dX6_digest_150 : decode cX6_digest 150 = .ok (.aload_n 0, 1) := by decide +kernel
theorem dX6_digest_151 : decode cX6_digest 151 = .ok (.iload_n 3, 1) := by decide +kernel
theorem dX6_digest_152 : decode cX6_digest 152 = .ok (.iload 4, 2) := by decide +kernel
theorem dX6_digest_154 : decode cX6_digest 154 = .ok (.invokevirtual 140, 3) := by decide +kernel
theorem dX6_digest_157 : decode cX6_digest 157 = .ok (.i2l, 1) := by decide +kernel
theorem dX6_digest_158 : decode cX6_digest 158 = .ok (.ladd, 1) := by decide +kernel
theorem dX6_digest_159 : decode cX6_digest 159 = .ok (.lstore_n 1, 1) := by decide +kernel
theorem dX6_digest_160 : decode cX6_digest 160 = .ok (.iinc 4 1, 3) := by decide +kernel
theorem dX6_digest_163 : decode cX6_digest 163 = .ok (.goto (-25), 3) := by decide +kernel
theorem dX6_digest_166 : decode cX6_digest 166 = .ok (.iinc 3 1, 3) := by decide +kernel
theorem dX6_digest_169 : decode cX6_digest 169 = .ok (.goto (-42), 3) := by decide +kernel
theorem dX6_digest_172 : decode cX6_digest 172 = .ok (.lload_n 1, 1) := by decide +kernel
theorem dX6_digest_173 : decode cX6_digest 173 = .ok (.lreturn, 1) := by decide +kernel
theorem dJ9_abs_0f7a4_0 : decode cJ9_abs_0f7a4 0 = .ok (.iload_n 0, 1) := by decide +kernel
theorem dJ9_abs_0f7a4_1 : decode cJ9_abs_0f7a4 1 = .ok (.ifCond .ge 8, 3) := by decide +kernel
theorem dJ9_abs_0f7a4_4 : decode cJ9_abs_0f7a4 4 = .ok (.iload_n 0, 1) := by decide +kernel
theorem dJ9_abs_0f7a4_5 : decode cJ9_abs_0f7a4 5 = .ok (.ineg, 1) := by decide +kernel
theorem dJ9_abs_0f7a4_6 : decode cJ9_abs_0f7a4 6 = .ok (.goto 4, 3) := by decide +kernel
theorem dJ9_abs_0f7a4_9 : decode cJ9_abs_0f7a4 9 = .ok (.iload_n 0, 1) := by decide +kernel
theorem dJ9_abs_0f7a4_10 : decode cJ9_abs_0f7a4 10 = .ok (.ireturn, 1) := by decide +kernel
theorem dJ9_max_7cf53_0 : decode cJ9_max_7cf53 0 = .ok (.iload_n 0, 1) := by decide +kernel
theorem dJ9_max_7cf53_1 : decode cJ9_max_7cf53 1 = .ok (.iload_n 1, 1) := by decide +kernel
theorem dJ9_max_7cf53_2 : decode cJ9_max_7cf53 2 = .ok (.if_icmp .lt 7, 3) := by decide +kernel
theorem dJ9_max_7cf53_5 : decode cJ9_max_7cf53 5 = .ok (.iload_n 0, 1) := by decide +kernel
theorem dJ9_max_7cf53_6 : decode cJ9_max_7cf53 6 = .ok (.goto 4, 3) := by decide +kernel
theorem dJ9_max_7cf53_9 : decode cJ9_max_7cf53 9 = .ok (.iload_n 1, 1) := by decide +kernel
theorem dJ9_max_7cf53_10 : decode cJ9_max_7cf53 10 = .ok (.ireturn, 1) := by decide +kernel
theorem dJ9_min_7cf53_0 : decode cJ9_min_7cf53 0 = .ok (.iload_n 0, 1) := by decide +kernel
theorem dJ9_min_7cf53_1 : decode cJ9_min_7cf53 1 = .ok (.iload_n 1, 1) := by decide +kernel
theorem dJ9_min_7cf53_2 : decode cJ9_min_7cf53 2 = .ok (.if_icmp .gt 7, 3) := by decide +kernel
theorem dJ9_min_7cf53_5 : decode cJ9_min_7cf53 5 = .ok (.iload_n 0, 1) := by decide +kernel
theorem dJ9_min_7cf53_6 : decode cJ9_min_7cf53 6 = .ok (.goto 4, 3) := by decide +kernel
theorem dJ9_min_7cf53_9 : decode cJ9_min_7cf53 9 = .ok (.iload_n 1, 1) := by decide +kernel
theorem dJ9_min_7cf53_10 : decode cJ9_min_7cf53 10 = .ok (.ireturn, 1) := by decide +kernel
theorem dJxa1e45_init_da8c8_0 : decode cJxa1e45_init_da8c8 0 = .ok (.aload_n 0, 1) := by decide +kernel
theorem dJxa1e45_init_da8c8_1 : decode cJxa1e45_init_da8c8 1 = .ok (.invokespecial 1, 3) := by decide +kernel
theorem dJxa1e45_init_da8c8_4 : decode cJxa1e45_init_da8c8 4 = .ok (.return_, 1) := by decide +kernel
theorem dJxc12de_init_da8c8_0 : decode cJxc12de_init_da8c8 0 = .ok (.aload_n 0, 1) := by decide +kernel
theorem dJxc12de_init_da8c8_1 : decode cJxc12de_init_da8c8 1 = .ok (.invokespecial 1, 3) := by decide +kernel
theorem dJxc12de_init_da8c8_4 : decode cJxc12de_init_da8c8 4 = .ok (.aload_n 0, 1) := by decide +kernel
theorem dJxc12de_init_da8c8_5 : decode cJxc12de_init_da8c8 5 = .ok (.iconst 0, 1) := by decide +kernel
theorem dJxc12de_init_da8c8_6 : decode cJxc12de_init_da8c8 6 = .ok (.putfield 7, 3) := by decide +kernel
theorem dJxc12de_init_da8c8_9 : decode cJxc12de_init_da8c8 9 = .ok (.return_, 1) := by decide +kernel
theorem dJx4a65c_init_da8c8_0 : decode cJx4a65c_init_da8c8 0 = .ok (.aload_n 0, 1) := by decide +kernel
theorem dJx4a65c_init_da8c8_1 : decode cJx4a65c_init_da8c8 1 = .ok (.invokespecial 1, 3) := by decide +kernel
theorem dJx4a65c_init_da8c8_4 : decode cJx4a65c_init_da8c8 4 = .ok (.aload_n 0, 1) := by decide +kernel
theorem dJx4a65c_init_da8c8_5 : decode cJx4a65c_init_da8c8 5 = .ok (.getstatic 39, 3) := by decide +kernel
theorem dJx4a65c_init_da8c8_8 : decode cJx4a65c_init_da8c8 8 = .ok (.putfield 9, 3) := by decide +kernel
theorem dJx4a65c_init_da8c8_11 : decode cJx4a65c_init_da8c8 11 = .ok (.return_, 1) := by decide +kernel
theorem dJx4a65c_grow_92f84_0 : decode cJx4a65c_grow_92f84 0 = .ok (.aload_n 0, 1) := by decide +kernel
theorem dJx4a65c_grow_92f84_1 : decode cJx4a65c_grow_92f84 1 = .ok (.getfield 9, 3) := by decide +kernel
theorem dJx4a65c_grow_92f84_4 : decode cJx4a65c_grow_92f84 4 = .ok (.arraylength, 1) := by decide +kernel
theorem dJx4a65c_grow_92f84_5 : decode cJx4a65c_grow_92f84 5 = .ok (.istore_n 2, 1) := by decide +kernel
theorem dJx4a65c_grow_92f84_6 : decode cJx4a65c_grow_92f84 6 = .ok (.iload_n 2, 1) := by decide +kernel
theorem dJx4a65c_grow_92f84_7 : decode cJx4a65c_grow_92f84 7 = .ok (.ifCond .gt 13, 3) := by decide +kernel
theorem dJx4a65c_grow_92f84_10 : decode cJx4a65c_grow_92f84 10 = .ok (.aload_n 0, 1) := by decide +kernel
theorem dJx4a65c_grow_92f84_11 : decode cJx4a65c_grow_92f84 11 = .ok (.getfield 9, 3) := by decide +kernel
theorem dJx4a65c_grow_92f84_14 : decode cJx4a65c_grow_92f84 14 = .ok (.getstatic 39, 3) := by decide +kernel
theorem dJx4a65c_grow_92f84_17 : decode cJx4a65c_grow_92f84 17 = .ok (.if_acmp .eq 28, 3) := by decide +kernel
theorem dJx4a65c_grow_92f84_20 : decode cJx4a65c_grow_92f84 20 = .ok (.iload_n 2, 1) := by decide +kernel
theorem dJx4a65c_grow_92f84_21 : decode cJx4a65c_grow_92f84 21 = .ok (.iload_n 1, 1) := by decide +kernel
theorem dJx4a65c_grow_92f84_22 : decode cJx4a65c_grow_92f84 22 = .ok (.iload_n 2, 1) := by decide +kernel
theorem dJx4a65c_grow_92f84_23 : decode cJx4a65c_grow_92f84 23 = .ok (.isub, 1) := by decide +kernel
theorem dJx4a65c_grow_92f84_24 : decode cJx4a65c_grow_92f84 24 = .ok (.iload_n 2, 1) := by decide +kernel
theorem dJx4a65c_grow_92f84_25 : decode cJx4a65c_grow_92f84 25 = .ok (.iconst 1, 1) := by decide +kernel
theorem dJx4a65c_grow_92f84_26 : decode cJx4a65c_grow_92f84 26 = .ok (.ishr, 1) := by decide +kernel
theorem dJx4a65c_grow_92f84_27 : decode cJx4a65c_grow_92f84 27 = .ok (.invokestatic 73, 3) := by decide +kernel
theorem dJx4a65c_grow_92f84_30 : decode cJx4a65c_grow_92f84 30 = .ok (.istore_n 3, 1) := by decide +kernel
theorem dJx4a65c_grow_92f84_31 : decode cJx4a65c_grow_92f84 31 = .ok (.aload_n 0, 1) := by decide +kernel
theorem dJx4a65c_grow_92f84_32 : decode cJx4a65c_grow_92f84 32 = .ok (.aload_n 0, 1) := by decide +kernel
theorem dJx4a65c_grow_92f84_33 : decode cJx4a65c_grow_92f84 33 = .ok (.getfield 9, 3) := by decide +kernel
theorem dJx4a65c_grow_92f84_36 : decode cJx4a65c_grow_92f84 36 = .ok (.iload_n 3, 1) := by decide +kernel
theorem dJx4a65c_grow_92f84_37 : decode cJx4a65c_grow_92f84 37 = .ok (.invokestatic 66, 3) := by decide +kernel
theorem dJx4a65c_grow_92f84_40 : decode cJx4a65c_grow_92f84 40 = .ok (.dup_x1, 1) := by decide +kernel
theorem dJx4a65c_grow_92f84_41 : decode cJx4a65c_grow_92f84 41 = .ok (.putfield 9, 3) := by decide +kernel
theorem dJx4a65c_grow_92f84_44 : decode cJx4a65c_grow_92f84 44 = .ok (.areturn, 1) := by decide +kernel
theorem dJx4a65c_grow_92f84_45 : decode cJx4a65c_grow_92f84 45 = .ok (.aload_n 0, 1) := by decide +kernel
theorem dJx4a65c_grow_92f84_46 : decode cJx4a65c_grow_92f84 46 = .ok (.bipush 10, 2) := by decide +kernel
theorem dJx4a65c_grow_92f84_48 : decode cJx4a65c_grow_92f84 48 = .ok (.iload_n 1, 1) := by decide +kernel
theorem dJx4a65c_grow_92f84_49 : decode cJx4a65c_grow_92f84 49 = .ok (.invokestatic 79, 3) := by decide +kernel
theorem dJx4a65c_grow_92f84_52 : decode cJx4a65c_grow_92f84 52 = .ok (.anewarray 7, 3) := by decide +kernel
theorem dJx4a65c_grow_92f84_55 : decode cJx4a65c_grow_92f84 55 = .ok (.dup_x1, 1) := by decide +kernel
theorem dJx4a65c_grow_92f84_56 : decode cJx4a65c_grow_92f84 56 = .ok (.putfield 9, 3) := by decide +kernel
theorem dJx4a65c_grow_92f84_59 : decode cJx4a65c_grow_92f84 59 = .ok (.areturn, 1) := by decide +kernel
theorem dJx4a65c_grow_d5877_0 : decode cJx4a65c_grow_d5877 0 = .ok (.aload_n 0, 1) := by decide +kernel
theorem dJx4a65c_grow_d5877_1 : decode cJx4a65c_grow_d5877 1 = .ok (.aload_n 0, 1) := by decide +kernel
theorem dJx4a65c_grow_d5877_2 : decode cJx4a65c_grow_d5877 2 = .ok (.getfield 48, 3) := by decide +kernel
theorem dJx4a65c_grow_d5877_5 : decode cJx4a65c_grow_d5877 5 = .ok (.iconst 1, 1) := by decide +kernel
theorem dJx4a65c_grow_d5877_6 : decode cJx4a65c_grow_d5877 6 = .ok (.iadd, 1) := by decide +kernel
theorem dJx4a65c_grow_d5877_7 : decode cJx4a65c_grow_d5877 7 = .ok (.invokevirtual 69, 3) := by decide +kernel
theorem dJx4a65c_grow_d5877_10 : decode cJx4a65c_grow_d5877 10 = .ok (.areturn, 1) := by decide +kernel
theorem dJx4a65c_size_8abf5_0 : decode cJx4a65c_size_8abf5 0 = .ok (.aload_n 0, 1) := by decide +kernel
theorem dJx4a65c_size_8abf5_1 : decode cJx4a65c_size_8abf5 1 = .ok (.getfield 48, 3) := by decide +kernel
theorem dJx4a65c_size_8abf5_4 : decode cJx4a65c_size_8abf5 4 = .ok (.ireturn, 1) := by decide +kernel
theorem dJx4a65c_elementData_915e3_0 : decode cJx4a65c_elementData_915e3 0 = .ok (.aload_n 0, 1) := by decide +kernel
theorem dJx4a65c_elementData_915e3_1 : decode cJx4a65c_elementData_915e3 1 = .ok (.getfield 9, 3) := by decide +kernel
theorem dJx4a65c_elementData_915e3_4 : decode cJx4a65c_elementData_915e3 4 = .ok (.iload_n 1, 1) := by decide +kernel
theorem dJx4a65c_elementData_915e3_5 : decode cJx4a65c_elementData_915e3 5 = .ok (.aaload, 1) := by decide +kernel
theorem dJx4a65c_elementData_915e3_6 : decode cJx4a65c_elementData_915e3 6 = .ok (.areturn, 1) := by decide +kernel
theorem dJx4a65c_get_915e3_0 : decode cJx4a65c_get_915e3 0 = .ok (.iload_n 1, 1) := by decide +kernel
theorem dJx4a65c_get_915e3_1 : decode cJx4a65c_get_915e3 1 = .ok (.aload_n 0, 1) := by decide +kernel
theorem dJx4a65c_get_915e3_2 : decode cJx4a65c_get_915e3 2 = .ok (.getfield 48, 3) := by decide +kernel
theorem dJx4a65c_get_915e3_5 : decode cJx4a65c_get_915e3 5 = .ok (.invokestatic 118, 3) := by decide +kernel
theorem dJx4a65c_get_915e3_8 : decode cJx4a65c_get_915e3 8 = .ok (.pop, 1) := by decide +kernel
theorem dJx4a65c_get_915e3_9 : decode cJx4a65c_get_915e3 9 = .ok (.aload_n 0, 1) := by decide +kernel
theorem dJx4a65c_get_915e3_10 : decode cJx4a65c_get_915e3 10 = .ok (.iload_n 1, 1) := by decide +kernel
