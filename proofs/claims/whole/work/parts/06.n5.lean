theorem dX8_letters_14 : decode cX8_letters 14 = .ok (.aload_n 0, 1) := by decide +kernel
theorem dX8_letters_15 : decode cX8_letters 15 = .ok (.lconst 1, 1) := by decide +kernel
theorem dX8_letters_16 : decode cX8_letters 16 = .ok (.invokevirtual 182, 3) := by decide +kernel
theorem dX8_letters_19 : decode cX8_letters 19 = .ok (.ifCond .eq 37, 3) := by decide +kernel
theorem dX8_letters_22 : decode cX8_letters 22 = .ok (.aload_n 0, 1) := by decide +kernel
theorem dX8_letters_23 : decode cX8_letters 23 = .ok (.getfield 22, 3) := by decide +kernel
theorem dX8_letters_26 : decode cX8_letters 26 = .ok (.aload_n 0, 1) := by decide +kernel
theorem dX8_letters_27 : decode cX8_letters 27 = .ok (.getfield 176, 3) := by decide +kernel
theorem dX8_letters_30 : decode cX8_letters 30 = .ok (.iaload, 1) := by decide +kernel
theorem dX8_letters_31 : decode cX8_letters 31 = .ok (.iload_n 1, 1) := by decide +kernel
theorem dX8_letters_32 : decode cX8_letters 32 = .ok (.bipush 24, 2) := by decide +kernel
theorem dX8_letters_34 : decode cX8_letters 34 = .ok (.bipush 8, 2) := by decide +kernel
theorem dX8_letters_36 : decode cX8_letters 36 = .ok (.iload_n 2, 1) := by decide +kernel
theorem dX8_letters_37 : decode cX8_letters 37 = .ok (.imul, 1) := by decide +kernel
theorem dX8_letters_38 : decode cX8_letters 38 = .ok (.isub, 1) := by decide +kernel
theorem dX8_letters_39 : decode cX8_letters 39 = .ok (.ishr, 1) := by decide +kernel
theorem dX8_letters_40 : decode cX8_letters 40 = .ok (.sipush 255, 3) := by decide +kernel
theorem dX8_letters_43 : decode cX8_letters 43 = .ok (.iand, 1) := by decide +kernel
theorem dX8_letters_44 : decode cX8_letters 44 = .ok (.if_icmp .eq 12, 3) := by decide +kernel
theorem dX8_letters_47 : decode cX8_letters 47 = .ok (.aload_n 0, 1) := by decide +kernel
theorem dX8_letters_48 : decode cX8_letters 48 = .ok (.iconst 2, 1) := by decide +kernel
theorem dX8_letters_49 : decode cX8_letters 49 = .ok (.aload_n 0, 1) := by decide +kernel
theorem dX8_letters_50 : decode cX8_letters 50 = .ok (.getfield 176, 3) := by decide +kernel
theorem dX8_letters_53 : decode cX8_letters 53 = .ok (.invokevirtual 179, 3) := by decide +kernel
theorem dX8_letters_56 : decode cX8_letters 56 = .ok (.aload_n 0, 1) := by decide +kernel
theorem dX8_letters_57 : decode cX8_letters 57 = .ok (.dup, 1) := by decide +kernel
theorem dX8_letters_58 : decode cX8_letters 58 = .ok (.getfield 176, 3) := by decide +kernel
theorem dX8_letters_61 : decode cX8_letters 61 = .ok (.iconst 1, 1) := by decide +kernel
theorem dX8_letters_62 : decode cX8_letters 62 = .ok (.iadd, 1) := by decide +kernel
theorem dX8_letters_63 : decode cX8_letters 63 = .ok (.putfield 176, 3) := by decide +kernel
theorem dX8_letters_66 : decode cX8_letters 66 = .ok (.iinc 2 1, 3) := by decide +kernel
theorem dX8_letters_69 : decode cX8_letters 69 = .ok (.goto (-67), 3) := by decide +kernel
theorem dX8_letters_72 : decode cX8_letters 72 = .ok (.return_, 1) := by decide +kernel
theorem dX8_readAll_0 : decode cX8_readAll 0 = .ok (.aload_n 0, 1) := by decide +kernel
theorem dX8_readAll_1 : decode cX8_readAll 1 = .ok (.ldc 156, 2) := by decide +kernel
theorem dX8_readAll_3 : decode cX8_readAll 3 = .ok (.invokevirtual 186, 3) := by decide +kernel
theorem dX8_readAll_6 : decode cX8_readAll 6 = .ok (.aload_n 0, 1) := by decide +kernel
theorem dX8_readAll_7 : decode cX8_readAll 7 = .ok (.getfield 170, 3) := by decide +kernel
theorem dX8_readAll_10 : decode cX8_readAll 10 = .ok (.ifCond .ne 48, 3) := by decide +kernel
theorem dX8_readAll_13 : decode cX8_readAll 13 = .ok (.aload_n 0, 1) := by decide +kernel
theorem dX8_readAll_14 : decode cX8_readAll 14 = .ok (.ldc2_w 189, 3) := by decide +kernel
theorem dX8_readAll_17 : decode cX8_readAll 17 = .ok (.invokevirtual 182, 3) := by decide +kernel
theorem dX8_readAll_20 : decode cX8_readAll 20 = .ok (.ifCond .eq 38, 3) := by decide +kernel
theorem dX8_readAll_23 : decode cX8_readAll 23 = .ok (.aload_n 0, 1) := by decide +kernel
theorem dX8_readAll_24 : decode cX8_readAll 24 = .ok (.iconst 4, 1) := by decide +kernel
theorem dX8_readAll_25 : decode cX8_readAll 25 = .ok (.invokevirtual 191, 3) := by decide +kernel
theorem dX8_readAll_28 : decode cX8_readAll 28 = .ok (.ifCond .lt 18, 3) := by decide +kernel
theorem dX8_readAll_31 : decode cX8_readAll 31 = .ok (.aload_n 0, 1) := by decide +kernel
theorem dX8_readAll_32 : decode cX8_readAll 32 = .ok (.iconst 4, 1) := by decide +kernel
theorem dX8_readAll_33 : decode cX8_readAll 33 = .ok (.invokevirtual 191, 3) := by decide +kernel
theorem dX8_readAll_36 : decode cX8_readAll 36 = .ok (.aload_n 0, 1) := by decide +kernel
theorem dX8_readAll_37 : decode cX8_readAll 37 = .ok (.getfield 167, 3) := by decide +kernel
theorem dX8_readAll_40 : decode cX8_readAll 40 = .ok (.bipush 8, 2) := by decide +kernel
theorem dX8_readAll_42 : decode cX8_readAll 42 = .ok (.isub, 1) := by decide +kernel
theorem dX8_readAll_43 : decode cX8_readAll 43 = .ok (.if_icmp .eq 9, 3) := by decide +kernel
theorem dX8_readAll_46 : decode cX8_readAll 46 = .ok (.aload_n 0, 1) := by decide +kernel
theorem dX8_readAll_47 : decode cX8_readAll 47 = .ok (.iconst 5, 1) := by decide +kernel
theorem dX8_readAll_48 : decode cX8_readAll 48 = .ok (.iconst 4, 1) := by decide +kernel
theorem dX8_readAll_49 : decode cX8_readAll 49 = .ok (.invokevirtual 179, 3) := by decide +kernel
theorem dX8_readAll_52 : decode cX8_readAll 52 = .ok (.aload_n 0, 1) := by decide +kernel
theorem dX8_readAll_53 : decode cX8_readAll 53 = .ok (.bipush 8, 2) := by decide +kernel
theorem dX8_readAll_55 : decode cX8_readAll 55 = .ok (.putfield 176, 3) := by decide +kernel
theorem dX8_readAll_58 : decode cX8_readAll 58 = .ok (.aload_n 0, 1) := by decide +kernel
theorem dX8_readAll_59 : decode cX8_readAll 59 = .ok (.ldc 157, 2) := by decide +kernel
theorem dX8_readAll_61 : decode cX8_readAll 61 = .ok (.invokevirtual 186, 3) := by decide +kernel
theorem dX8_readAll_64 : decode cX8_readAll 64 = .ok (.aload_n 0, 1) := by decide +kernel
theorem dX8_readAll_65 : decode cX8_readAll 65 = .ok (.getfield 170, 3) := by decide +kernel
theorem dX8_readAll_68 : decode cX8_readAll 68 = .ok (.ifCond .ne 21, 3) := by decide +kernel
theorem dX8_readAll_71 : decode cX8_readAll 71 = .ok (.aload_n 0, 1) := by decide +kernel
theorem dX8_readAll_72 : decode cX8_readAll 72 = .ok (.getfield 176, 3) := by decide +kernel
theorem dX8_readAll_75 : decode cX8_readAll 75 = .ok (.aload_n 0, 1) := by decide +kernel
theorem dX8_readAll_76 : decode cX8_readAll 76 = .ok (.getfield 167, 3) := by decide +kernel
theorem dX8_readAll_79 : decode cX8_readAll 79 = .ok (.if_icmp .ge 10, 3) := by decide +kernel
theorem dX8_readAll_82 : decode cX8_readAll 82 = .ok (.aload_n 0, 1) := by decide +kernel
theorem dX8_readAll_83 : decode cX8_readAll 83 = .ok (.invokevirtual 194, 3) := by decide +kernel
theorem dX8_readAll_86 : decode cX8_readAll 86 = .ok (.goto (-22), 3) := by decide +kernel
theorem dX8_readAll_89 : decode cX8_readAll 89 = .ok (.aload_n 0, 1) := by decide +kernel
theorem dX8_readAll_90 : decode cX8_readAll 90 = .ok (.getfield 170, 3) := by decide +kernel
theorem dX8_readAll_93 : decode cX8_readAll 93 = .ok (.ifCond .ne 25, 3) := by decide +kernel
theorem dX8_readAll_96 : decode cX8_readAll 96 = .ok (.aload_n 0, 1) := by decide +kernel
theorem dX8_readAll_97 : decode cX8_readAll 97 = .ok (.getfield 197, 3) := by decide +kernel
theorem dX8_readAll_100 : decode cX8_readAll 100 = .ok (.bipush 6, 2) := by decide +kernel
theorem dX8_readAll_102 : decode cX8_readAll 102 = .ok (.iand, 1) := by decide +kernel
theorem dX8_readAll_103 : decode cX8_readAll 103 = .ok (.bipush 6, 2) := by decide +kernel
theorem dX8_readAll_105 : decode cX8_readAll 105 = .ok (.if_icmp .eq 13, 3) := by decide +kernel
theorem dX8_readAll_108 : decode cX8_readAll 108 = .ok (.aload_n 0, 1) := by decide +kernel
theorem dX8_readAll_109 : decode cX8_readAll 109 = .ok (.bipush 8, 2) := by decide +kernel
theorem dX8_readAll_111 : decode cX8_readAll 111 = .ok (.aload_n 0, 1) := by decide +kernel
theorem dX8_readAll_112 : decode cX8_readAll 112 = .ok (.getfield 167, 3) := by decide +kernel
theorem dX8_readAll_115 : decode cX8_readAll 115 = .ok (.invokevirtual 179, 3) := by decide +kernel
theorem dX8_readAll_118 : decode cX8_readAll 118 = .ok (.return_, 1) := by decide +kernel
theorem dX8_readChunk_0 : decode cX8_readChunk 0 = .ok (.aload_n 0, 1) := by decide +kernel
theorem dX8_readChunk_1 : decode cX8_readChunk 1 = .ok (.getfield 176, 3) := by decide +kernel
theorem dX8_readChunk_4 : decode cX8_readChunk 4 = .ok (.istore_n 1, 1) := by decide +kernel
theorem dX8_readChunk_5 : decode cX8_readChunk 5 = .ok (.aload_n 0, 1) := by decide +kernel
theorem dX8_readChunk_6 : decode cX8_readChunk 6 = .ok (.ldc2_w 189, 3) := by decide +kernel
theorem dX8_readChunk_9 : decode cX8_readChunk 9 = .ok (.invokevirtual 182, 3) := by decide +kernel
theorem dX8_readChunk_12 : decode cX8_readChunk 12 = .ok (.ifCond .ne 4, 3) := by decide +kernel
theorem dX8_readChunk_15 : decode cX8_readChunk 15 = .ok (.return_, 1) := by decide +kernel
theorem dX8_readChunk_16 : decode cX8_readChunk 16 = .ok (.aload_n 0, 1) := by decide +kernel
theorem dX8_readChunk_17 : decode cX8_readChunk 17 = .ok (.iload_n 1, 1) := by decide +kernel
theorem dX8_readChunk_18 : decode cX8_readChunk 18 = .ok (.invokevirtual 191, 3) := by decide +kernel
theorem dX8_readChunk_21 : decode cX8_readChunk 21 = .ok (.istore_n 2, 1) := by decide +kernel
theorem dX8_readChunk_22 : decode cX8_readChunk 22 = .ok (.iload_n 2, 1) := by decide +kernel
theorem dX8_readChunk_23 : decode cX8_readChunk 23 = .ok (.ldc 158, 2) := by decide +kernel
theorem dX8_readChunk_25 : decode cX8_readChunk 25 = .ok (.if_icmp .ne 7, 3) := by decide +kernel
theorem dX8_readChunk_28 : decode cX8_readChunk 28 = .ok (.iconst 0, 1) := by decide +kernel
theorem dX8_readChunk_29 : decode cX8_readChunk 29 = .ok (.goto 34, 3) := by decide +kernel
theorem dX8_readChunk_32 : decode cX8_readChunk 32 = .ok (.iload_n 2, 1) := by decide +kernel
theorem dX8_readChunk_33 : decode cX8_readChunk 33 = .ok (.ldc 149, 2) := by decide +kernel
theorem dX8_readChunk_35 : decode cX8_readChunk 35 = .ok (.if_icmp .ne 7, 3) := by decide +kernel
theorem dX8_readChunk_38 : decode cX8_readChunk 38 = .ok (.iconst 1, 1) := by decide +kernel
theorem dX8_readChunk_39 : decode cX8_readChunk 39 = .ok (.goto 24, 3) := by decide +kernel
theorem dX8_readChunk_42 : decode cX8_readChunk 42 = .ok (.iload_n 2, 1) := by decide +kernel
theorem dX8_readChunk_43 : decode cX8_readChunk 43 = .ok (.ldc 162, 2) := by decide +kernel
theorem dX8_readChunk_45 : decode cX8_readChunk 45 = .ok (.if_icmp .ne 7, 3) := by decide +kernel
theorem dX8_readChunk_48 : decode cX8_readChunk 48 = .ok (.iconst 2, 1) := by decide +kernel
theorem dX8_readChunk_49 : decode cX8_readChunk 49 = .ok (.goto 14, 3) := by decide +kernel
theorem dX8_readChunk_52 : decode cX8_readChunk 52 = .ok (.iload_n 2, 1) := by decide +kernel
theorem dX8_readChunk_53 : decode cX8_readChunk 53 = .ok (.ldc 163, 2) := by decide +kernel
theorem dX8_readChunk_55 : decode cX8_readChunk 55 = .ok (.if_icmp .ne 7, 3) := by decide +kernel
theorem dX8_readChunk_58 : decode cX8_readChunk 58 = .ok (.iconst 3, 1) := by decide +kernel
theorem dX8_readChunk_59 : decode cX8_readChunk 59 = .ok (.goto 4, 3) := by decide +kernel
theorem dX8_readChunk_62 : decode cX8_readChunk 62 = .ok (.iconst 4, 1) := by decide +kernel
theorem dX8_readChunk_63 : decode cX8_readChunk 63 = .ok (.istore_n 3, 1) := by decide +kernel
theorem dX8_readChunk_64 : decode cX8_readChunk 64 = .ok (.aload_n 0, 1) := by decide +kernel
theorem dX8_readChunk_65 : decode cX8_readChunk 65 = .ok (.dup, 1) := by decide +kernel
theorem dX8_readChunk_66 : decode cX8_readChunk 66 = .ok (.getfield 176, 3) := by decide +kernel
theorem dX8_readChunk_69 : decode cX8_readChunk 69 = .ok (.iconst 4, 1) := by decide +kernel
theorem dX8_readChunk_70 : decode cX8_readChunk 70 = .ok (.iadd, 1) := by decide +kernel
theorem dX8_readChunk_71 : decode cX8_readChunk 71 = .ok (.putfield 176, 3) := by decide +kernel
theorem dX8_readChunk_74 : decode cX8_readChunk 74 = .ok (.iload_n 3, 1) := by decide +kernel
theorem dX8_readChunk_75 : decode cX8_readChunk 75 = .ok (.iconst 4, 1) := by decide +kernel
theorem dX8_readChunk_76 : decode cX8_readChunk 76 = .ok (.if_icmp .ge 21, 3) := by decide +kernel
theorem dX8_readChunk_79 : decode cX8_readChunk 79 = .ok (.aload_n 0, 1) := by decide +kernel
theorem dX8_readChunk_80 : decode cX8_readChunk 80 = .ok (.getfield 197, 3) := by decide +kernel
theorem dX8_readChunk_83 : decode cX8_readChunk 83 = .ok (.iload_n 3, 1) := by decide +kernel
theorem dX8_readChunk_84 : decode cX8_readChunk 84 = .ok (.ishr, 1) := by decide +kernel
theorem dX8_readChunk_85 : decode cX8_readChunk 85 = .ok (.iconst 1, 1) := by decide +kernel
theorem dX8_readChunk_86 : decode cX8_readChunk 86 = .ok (.iand, 1) := by decide +kernel
theorem dX8_readChunk_87 : decode cX8_readChunk 87 = .ok (.iconst 1, 1) := by decide +kernel
theorem dX8_readChunk_88 : decode cX8_readChunk 88 = .ok (.if_icmp .ne 9, 3) := by decide +kernel
theorem dX8_readChunk_91 : decode cX8_readChunk 91 = .ok (.aload_n 0, 1) := by decide +kernel
theorem dX8_readChunk_92 : decode cX8_readChunk 92 = .ok (.iconst 4, 1) := by decide +kernel
theorem dX8_readChunk_93 : decode cX8_readChunk 93 = .ok (.iload_n 1, 1) := by decide +kernel
theorem dX8_readChunk_94 : decode cX8_readChunk 94 = .ok (.invokevirtual 179, 3) := by decide +kernel
theorem dX8_readChunk_97 : decode cX8_readChunk 97 = .ok (.iload_n 3, 1) := by decide +kernel
theorem dX8_readChunk_98 : decode cX8_readChunk 98 = .ok (.i2l, 1) := by decide +kernel
theorem dX8_readChunk_99 : decode cX8_readChunk 99 = .ok (.lconst 1, 1) := by decide +kernel
theorem dX8_readChunk_100 : decode cX8_readChunk 100 = .ok (.ldc2_w 200, 3) := by decide +kernel
theorem dX8_readChunk_103 : decode cX8_readChunk 103 = .ok (.invokestatic 87, 3) := by decide +kernel
theorem dX8_readChunk_106 : decode cX8_readChunk 106 = .ok (.ifCond .eq 12, 3) := by decide +kernel
theorem dX8_readChunk_109 : decode cX8_readChunk 109 = .ok (.aload_n 0, 1) := by decide +kernel
theorem dX8_readChunk_110 : decode cX8_readChunk 110 = .ok (.getfield 197, 3) := by decide +kernel
theorem dX8_readChunk_113 : decode cX8_readChunk 113 = .ok (.iconst 1, 1) := by decide +kernel
theorem dX8_readChunk_114 : decode cX8_readChunk 114 = .ok (.iand, 1) := by decide +kernel
theorem dX8_readChunk_115 : decode cX8_readChunk 115 = .ok (.ifCond .eq 17, 3) := by decide +kernel
theorem dX8_readChunk_118 : decode cX8_readChunk 118 = .ok (.iload_n 3, 1) := by decide +kernel
theorem dX8_readChunk_119 : decode cX8_readChunk 119 = .ok (.iconst 3, 1) := by decide +kernel
theorem dX8_readChunk_120 : decode cX8_readChunk 120 = .ok (.if_icmp .ne 19, 3) := by decide +kernel
theorem dX8_readChunk_123 : decode cX8_readChunk 123 = .ok (.aload_n 0, 1) := by decide +kernel
theorem dX8_readChunk_124 : decode cX8_readChunk 124 = .ok (.getfield 197, 3) := by decide +kernel
theorem dX8_readChunk_127 : decode cX8_readChunk 127 = .ok (.iconst 2, 1) := by decide +kernel
theorem dX8_readChunk_128 : decode cX8_readChunk 128 = .ok (.iand, 1) := by decide +kernel
theorem dX8_readChunk_129 : decode cX8_readChunk 129 = .ok (.ifCond .ne 10, 3) := by decide +kernel
theorem dX8_readChunk_132 : decode cX8_readChunk 132 = .ok (.aload_n 0, 1) := by decide +kernel
theorem dX8_readChunk_133 : decode cX8_readChunk 133 = .ok (.bipush 8, 2) := by decide +kernel
theorem dX8_readChunk_135 : decode cX8_readChunk 135 = .ok (.iload_n 1, 1) := by decide +kernel
theorem dX8_readChunk_136 : decode cX8_readChunk 136 = .ok (.invokevirtual 179, 3) := by decide +kernel
theorem dX8_readChunk_139 : decode cX8_readChunk 139 = .ok (.aload_n 0, 1) := by decide +kernel
theorem dX8_readChunk_140 : decode cX8_readChunk 140 = .ok (.getfield 170, 3) := by decide +kernel
theorem dX8_readChunk_143 : decode cX8_readChunk 143 = .ok (.ifCond .ne 13, 3) := by decide +kernel
theorem dX8_readChunk_146 : decode cX8_readChunk 146 = .ok (.aload_n 0, 1) := by decide +kernel
theorem dX8_readChunk_147 : decode cX8_readChunk 147 = .ok (.ldc2_w 189, 3) := by decide +kernel
theorem dX8_readChunk_150 : decode cX8_readChunk 150 = .ok (.invokevirtual 182, 3) := by decide +kernel
theorem dX8_readChunk_153 : decode cX8_readChunk 153 = .ok (.ifCond .ne 4, 3) := by decide +kernel
theorem dX8_readChunk_156 : decode cX8_readChunk 156 = .ok (.return_, 1) := by decide +kernel
theorem dX8_readChunk_157 : decode cX8_readChunk 157 = .ok (.aload_n 0, 1) := by decide +kernel
theorem dX8_readChunk_158 : decode cX8_readChunk 158 = .ok (.iload_n 1, 1) := by decide +kernel
theorem dX8_readChunk_159 : decode cX8_readChunk 159 = .ok (.iconst 4, 1) := by decide +kernel
theorem dX8_readChunk_160 : decode cX8_readChunk 160 = .ok (.iadd, 1) := by decide +kernel
theorem dX8_readChunk_161 : decode cX8_readChunk 161 = .ok (.invokevirtual 191, 3) := by decide +kernel
theorem dX8_readChunk_164 : decode cX8_readChunk 164 = .ok (.istore 4, 2) := by decide +kernel
theorem dX8_readChunk_166 : decode cX8_readChunk 166 = .ok (.aload_n 0, 1) := by decide +kernel
theorem dX8_readChunk_167 : decode cX8_readChunk 167 = .ok (.dup, 1) := by decide +kernel
theorem dX8_readChunk_168 : decode cX8_readChunk 168 = .ok (.getfield 176, 3) := by decide +kernel
theorem dX8_readChunk_171 : decode cX8_readChunk 171 = .ok (.iconst 4, 1) := by decide +kernel
theorem dX8_readChunk_172 : decode cX8_readChunk 172 = .ok (.iadd, 1) := by decide +kernel
theorem dX8_readChunk_173 : decode cX8_readChunk 173 = .ok (.putfield 176, 3) := by decide +kernel
theorem dX8_readChunk_176 : decode cX8_readChunk 176 = .ok (.iload_n 3, 1) := by decide +kernel
theorem dX8_readChunk_177 : decode cX8_readChunk 177 = .ok (.ifCond .ne 18, 3) := by decide +kernel
theorem dX8_readChunk_180 : decode cX8_readChunk 180 = .ok (.iload 4, 2) := by decide +kernel
theorem dX8_readChunk_182 : decode cX8_readChunk 182 = .ok (.bipush 16, 2) := by decide +kernel
theorem dX8_readChunk_184 : decode cX8_readChunk 184 = .ok (.if_icmp .ne 7, 3) := by decide +kernel
theorem dX8_readChunk_187 : decode cX8_readChunk 187 = .ok (.iconst 1, 1) := by decide +kernel
theorem dX8_readChunk_188 : decode cX8_readChunk 188 = .ok (.goto 88, 3) := by decide +kernel
theorem dX8_readChunk_191 : decode cX8_readChunk 191 = .ok (.iconst 0, 1) := by decide +kernel
theorem dX8_readChunk_192 : decode cX8_readChunk 192 = .ok (.goto 84, 3) := by decide +kernel
theorem dX8_readChunk_195 : decode cX8_readChunk 195 = .ok (.iload_n 3, 1) := by decide +kernel
theorem dX8_readChunk_196 : decode cX8_readChunk 196 = .ok (.iconst 1, 1) := by decide +kernel
theorem dX8_readChunk_197 : decode cX8_readChunk 197 = .ok (.if_icmp .ne 17, 3) := by decide +kernel
theorem dX8_readChunk_200 : decode cX8_readChunk 200 = .ok (.iload 4, 2) := by decide +kernel
theorem dX8_readChunk_202 : decode cX8_readChunk 202 = .ok (.iconst 4, 1) := by decide +kernel
theorem dX8_readChunk_203 : decode cX8_readChunk 203 = .ok (.if_icmp .lt 7, 3) := by decide +kernel
theorem dX8_readChunk_206 : decode cX8_readChunk 206 = .ok (.iconst 1, 1) := by decide +kernel
theorem dX8_readChunk_207 : decode cX8_readChunk 207 = .ok (.goto 69, 3) := by decide +kernel
theorem dX8_readChunk_210 : decode cX8_readChunk 210 = .ok (.iconst 0, 1) := by decide +kernel
theorem dX8_readChunk_211 : decode cX8_readChunk 211 = .ok (.goto 65, 3) := by decide +kernel
theorem dX8_readChunk_214 : decode cX8_readChunk 214 = .ok (.iload_n 3, 1) := by decide +kernel
theorem dX8_readChunk_215 : decode cX8_readChunk 215 = .ok (.iconst 2, 1) := by decide +kernel
theorem dX8_readChunk_216 : decode cX8_readChunk 216 = .ok (.if_icmp .ne 26, 3) := by decide +kernel
theorem dX8_readChunk_219 : decode cX8_readChunk 219 = .ok (.iload 4, 2) := by decide +kernel
theorem dX8_readChunk_221 : decode cX8_readChunk 221 = .ok (.iconst 4, 1) := by decide +kernel
theorem dX8_readChunk_222 : decode cX8_readChunk 222 = .ok (.irem, 1) := by decide +kernel
theorem dX8_readChunk_223 : decode cX8_readChunk 223 = .ok (.ifCond .ne 15, 3) := by decide +kernel
theorem dX8_readChunk_226 : decode cX8_readChunk 226 = .ok (.iload 4, 2) := by decide +kernel
theorem dX8_readChunk_228 : decode cX8_readChunk 228 = .ok (.sipush 160, 3) := by decide +kernel
theorem dX8_readChunk_231 : decode cX8_readChunk 231 = .ok (.if_icmp .gt 7, 3) := by decide +kernel
theorem dX8_readChunk_234 : decode cX8_readChunk 234 = .ok (.iconst 1, 1) := by decide +kernel
theorem dX8_readChunk_235 : decode cX8_readChunk 235 = .ok (.goto 41, 3) := by decide +kernel
theorem dX8_readChunk_238 : decode cX8_readChunk 238 = .ok (.iconst 0, 1) := by decide +kernel
theorem dX8_readChunk_239 : decode cX8_readChunk 239 = .ok (.goto 37, 3) := by decide +kernel
theorem dX8_readChunk_242 : decode cX8_readChunk 242 = .ok (.iload_n 3, 1) := by decide +kernel
theorem dX8_readChunk_243 : decode cX8_readChunk 243 = .ok (.iconst 3, 1) := by decide +kernel
theorem dX8_readChunk_244 : decode cX8_readChunk 244 = .ok (.if_icmp .ne 27, 3) := by decide +kernel
theorem dX8_readChunk_247 : decode cX8_readChunk 247 = .ok (.iload 4, 2) := by decide +kernel
theorem dX8_readChunk_249 : decode cX8_readChunk 249 = .ok (.i2l, 1) := by decide +kernel
theorem dX8_readChunk_250 : decode cX8_readChunk 250 = .ok (.ldc2_w 202, 3) := by decide +kernel
theorem dX8_readChunk_253 : decode cX8_readChunk 253 = .ok (.ldc2_w 204, 3) := by decide +kernel
theorem dX8_readChunk_256 : decode cX8_readChunk 256 = .ok (.invokestatic 87, 3) := by decide +kernel
theorem dX8_readChunk_259 : decode cX8_readChunk 259 = .ok (.ifCond .eq 16, 3) := by decide +kernel
theorem dX8_readChunk_262 : decode cX8_readChunk 262 = .ok (.iload 4, 2) := by decide +kernel
theorem dX8_readChunk_264 : decode cX8_readChunk 264 = .ok (.bipush 8, 2) := by decide +kernel
theorem dX8_readChunk_266 : decode cX8_readChunk 266 = .ok (.irem, 1) := by decide +kernel
theorem dX8_readChunk_267 : decode cX8_readChunk 267 = .ok (.iconst 4, 1) := by decide +kernel
theorem dX8_readChunk_268 : decode cX8_readChunk 268 = .ok (.if_icmp .ne 7, 3) := by decide +kernel
theorem dX8_readChunk_271 : decode cX8_readChunk 271 = .ok (.iconst 1, 1) := by decide +kernel
theorem dX8_readChunk_272 : decode cX8_readChunk 272 = .ok (.goto 4, 3) := by decide +kernel
theorem dX8_readChunk_275 : decode cX8_readChunk 275 = .ok (.iconst 0, 1) := by decide +kernel
theorem dX8_readChunk_276 : decode cX8_readChunk 276 = .ok (.istore 5, 2) := by decide +kernel
theorem dX8_readChunk_278 : decode cX8_readChunk 278 = .ok (.iload 4, 2) := by decide +kernel
theorem dX8_readChunk_280 : decode cX8_readChunk 280 = .ok (.ifCond .lt 8, 3) := by decide +kernel
theorem dX8_readChunk_283 : decode cX8_readChunk 283 = .ok (.iload 5, 2) := by decide +kernel
theorem dX8_readChunk_285 : decode cX8_readChunk 285 = .ok (.ifCond .ne 11, 3) := by decide +kernel
theorem dX8_readChunk_288 : decode cX8_readChunk 288 = .ok (.aload_n 0, 1) := by decide +kernel
theorem dX8_readChunk_289 : decode cX8_readChunk 289 = .ok (.iconst 5, 1) := by decide +kernel
theorem dX8_readChunk_290 : decode cX8_readChunk 290 = .ok (.iload_n 1, 1) := by decide +kernel
theorem dX8_readChunk_291 : decode cX8_readChunk 291 = .ok (.iconst 4, 1) := by decide +kernel
theorem dX8_readChunk_292 : decode cX8_readChunk 292 = .ok (.iadd, 1) := by decide +kernel
theorem dX8_readChunk_293 : decode cX8_readChunk 293 = .ok (.invokevirtual 179, 3) := by decide +kernel
theorem dX8_readChunk_296 : decode cX8_readChunk 296 = .ok (.iload_n 3, 1) := by decide +kernel
theorem dX8_readChunk_297 : decode cX8_readChunk 297 = .ok (.iconst 4, 1) := by decide +kernel
theorem dX8_readChunk_298 : decode cX8_readChunk 298 = .ok (.if_icmp .ne 25, 3) := by decide +kernel
theorem dX8_readChunk_301 : decode cX8_readChunk 301 = .ok (.aload_n 0, 1) := by decide +kernel
theorem dX8_readChunk_302 : decode cX8_readChunk 302 = .ok (.getfield 206, 3) := by decide +kernel
theorem dX8_readChunk_305 : decode cX8_readChunk 305 = .ok (.iconst 4, 1) := by decide +kernel
theorem dX8_readChunk_306 : decode cX8_readChunk 306 = .ok (.if_icmp .eq 10, 3) := by decide +kernel
theorem dX8_readChunk_309 : decode cX8_readChunk 309 = .ok (.iload 4, 2) := by decide +kernel
theorem dX8_readChunk_311 : decode cX8_readChunk 311 = .ok (.bipush 60, 2) := by decide +kernel
theorem dX8_readChunk_313 : decode cX8_readChunk 313 = .ok (.if_icmp .le 10, 3) := by decide +kernel
theorem dX8_readChunk_316 : decode cX8_readChunk 316 = .ok (.aload_n 0, 1) := by decide +kernel
theorem dX8_readChunk_317 : decode cX8_readChunk 317 = .ok (.bipush 9, 2) := by decide +kernel
theorem dX8_readChunk_319 : decode cX8_readChunk 319 = .ok (.iload_n 1, 1) := by decide +kernel
theorem dX8_readChunk_320 : decode cX8_readChunk 320 = .ok (.invokevirtual 179, 3) := by decide +kernel
theorem dX8_readChunk_323 : decode cX8_readChunk 323 = .ok (.aload_n 0, 1) := by decide +kernel
theorem dX8_readChunk_324 : decode cX8_readChunk 324 = .ok (.getfield 170, 3) := by decide +kernel
theorem dX8_readChunk_327 : decode cX8_readChunk 327 = .ok (.ifCond .ne 19, 3) := by decide +kernel
theorem dX8_readChunk_330 : decode cX8_readChunk 330 = .ok (.aload_n 0, 1) := by decide +kernel
theorem dX8_readChunk_331 : decode cX8_readChunk 331 = .ok (.iload 4, 2) := by decide +kernel
theorem dX8_readChunk_333 : decode cX8_readChunk 333 = .ok (.i2l, 1) := by decide +kernel
theorem dX8_readChunk_334 : decode cX8_readChunk 334 = .ok (.iload 4, 2) := by decide +kernel
theorem dX8_readChunk_336 : decode cX8_readChunk 336 = .ok (.iconst 2, 1) := by decide +kernel
theorem dX8_readChunk_337 : decode cX8_readChunk 337 = .ok (.irem, 1) := by decide +kernel
theorem dX8_readChunk_338 : decode cX8_readChunk 338 = .ok (.i2l, 1) := by decide +kernel
theorem dX8_readChunk_339 : decode cX8_readChunk 339 = .ok (.ladd, 1) := by decide +kernel
theorem dX8_readChunk_340 : decode cX8_readChunk 340 = .ok (.invokevirtual 182, 3) := by decide +kernel
theorem dX8_readChunk_343 : decode cX8_readChunk 343 = .ok (.ifCond .ne 4, 3) := by decide +kernel
theorem dX8_readChunk_346 : decode cX8_readChunk 346 = .ok (.return_, 1) := by decide +kernel
theorem dX8_readChunk_347 : decode cX8_readChunk 347 = .ok (.iload 4, 2) := by decide +kernel
theorem dX8_readChunk_349 : decode cX8_readChunk 349 = .ok (.iconst 2, 1) := by decide +kernel
theorem dX8_readChunk_350 : decode cX8_readChunk 350 = .ok (.irem, 1) := by decide +kernel
theorem dX8_readChunk_351 : decode cX8_readChunk 351 = .ok (.iconst 1, 1) := by decide +kernel
theorem dX8_readChunk_352 : decode cX8_readChunk 352 = .ok (.if_icmp .ne 31, 3) := by decide +kernel
theorem dX8_readChunk_355 : decode cX8_readChunk 355 = .ok (.aload_n 0, 1) := by decide +kernel
theorem dX8_readChunk_356 : decode cX8_readChunk 356 = .ok (.getfield 22, 3) := by decide +kernel
theorem dX8_readChunk_359 : decode cX8_readChunk 359 = .ok (.aload_n 0, 1) := by decide +kernel
theorem dX8_readChunk_360 : decode cX8_readChunk 360 = .ok (.getfield 176, 3) := by decide +kernel
theorem dX8_readChunk_363 : decode cX8_readChunk 363 = .ok (.iload 4, 2) := by decide +kernel
theorem dX8_readChunk_365 : decode cX8_readChunk 365 = .ok (.iadd, 1) := by decide +kernel
theorem dX8_readChunk_366 : decode cX8_readChunk 366 = .ok (.iaload, 1) := by decide +kernel
theorem dX8_readChunk_367 : decode cX8_readChunk 367 = .ok (.ifCond .eq 16, 3) := by decide +kernel
theorem dX8_readChunk_370 : decode cX8_readChunk 370 = .ok (.aload_n 0, 1) := by decide +kernel
theorem dX8_readChunk_371 : decode cX8_readChunk 371 = .ok (.iconst 2, 1) := by decide +kernel
theorem dX8_readChunk_372 : decode cX8_readChunk 372 = .ok (.aload_n 0, 1) := by decide +kernel
theorem dX8_readChunk_373 : decode cX8_readChunk 373 = .ok (.getfield 176, 3) := by decide +kernel
theorem dX8_readChunk_376 : decode cX8_readChunk 376 = .ok (.iload 4, 2) := by decide +kernel
theorem dX8_readChunk_378 : decode cX8_readChunk 378 = .ok (.iadd, 1) := by decide +kernel
theorem dX8_readChunk_379 : decode cX8_readChunk 379 = .ok (.invokevirtual 179, 3) := by decide +kernel
theorem dX8_readChunk_382 : decode cX8_readChunk 382 = .ok (.return_, 1) := by decide +kernel
theorem dX8_readChunk_383 : decode cX8_readChunk 383 = .ok (.aload_n 0, 1) := by decide +kernel
theorem dX8_readChunk_384 : decode cX8_readChunk 384 = .ok (.dup, 1) := by decide +kernel
theorem dX8_readChunk_385 : decode cX8_readChunk 385 = .ok (.getfield 197, 3) := by decide +kernel
theorem dX8_readChunk_388 : decode cX8_readChunk 388 = .ok (.iconst 1, 1) := by decide +kernel
theorem dX8_readChunk_389 : decode cX8_readChunk 389 = .ok (.iload_n 3, 1) := by decide +kernel
theorem dX8_readChunk_390 : decode cX8_readChunk 390 = .ok (.ishl, 1) := by decide +kernel
theorem dX8_readChunk_391 : decode cX8_readChunk 391 = .ok (.ior, 1) := by decide +kernel
theorem dX8_readChunk_392 : decode cX8_readChunk 392 = .ok (.putfield 197, 3) := by decide +kernel
theorem dX8_readChunk_395 : decode cX8_readChunk 395 = .ok (.iload_n 3, 1) := by decide +kernel
theorem dX8_readChunk_396 : decode cX8_readChunk 396 = .ok (.ifCond .ne 12, 3) := by decide +kernel
theorem dX8_readChunk_399 : decode cX8_readChunk 399 = .ok (.aload_n 0, 1) := by decide +kernel
theorem dX8_readChunk_400 : decode cX8_readChunk 400 = .ok (.iload 4, 2) := by decide +kernel
theorem dX8_readChunk_402 : decode cX8_readChunk 402 = .ok (.invokevirtual 209, 3) := by decide +kernel
theorem dX8_readChunk_405 : decode cX8_readChunk 405 = .ok (.goto 119, 3) := by decide +kernel
theorem dX8_readChunk_408 : decode cX8_readChunk 408 = .ok (.iload_n 3, 1) := by decide +kernel
theorem dX8_readChunk_409 : decode cX8_readChunk 409 = .ok (.iconst 1, 1) := by decide +kernel
theorem dX8_readChunk_410 : decode cX8_readChunk 410 = .ok (.if_icmp .ne 12, 3) := by decide +kernel
theorem dX8_readChunk_413 : decode cX8_readChunk 413 = .ok (.aload_n 0, 1) := by decide +kernel
theorem dX8_readChunk_414 : decode cX8_readChunk 414 = .ok (.iload 4, 2) := by decide +kernel
theorem dX8_readChunk_416 : decode cX8_readChunk 416 = .ok (.invokevirtual 212, 3) := by decide +kernel
theorem dX8_readChunk_419 : decode cX8_readChunk 419 = .ok (.goto 105, 3) := by decide +kernel
theorem dX8_readChunk_422 : decode cX8_readChunk 422 = .ok (.iload_n 3, 1) := by decide +kernel
theorem dX8_readChunk_423 : decode cX8_readChunk 423 = .ok (.iconst 2, 1) := by decide +kernel
theorem dX8_readChunk_424 : decode cX8_readChunk 424 = .ok (.if_icmp .ne 12, 3) := by decide +kernel
theorem dX8_readChunk_427 : decode cX8_readChunk 427 = .ok (.aload_n 0, 1) := by decide +kernel
theorem dX8_readChunk_428 : decode cX8_readChunk 428 = .ok (.iload 4, 2) := by decide +kernel
theorem dX8_readChunk_430 : decode cX8_readChunk 430 = .ok (.invokevirtual 215, 3) := by decide +kernel
theorem dX8_readChunk_433 : decode cX8_readChunk 433 = .ok (.goto 91, 3) := by decide +kernel
theorem dX8_readChunk_436 : decode cX8_readChunk 436 = .ok (.iload_n 3, 1) := by decide +kernel
theorem dX8_readChunk_437 : decode cX8_readChunk 437 = .ok (.iconst 3, 1) := by decide +kernel
theorem dX8_readChunk_438 : decode cX8_readChunk 438 = .ok (.if_icmp .ne 12, 3) := by decide +kernel
theorem dX8_readChunk_441 : decode cX8_readChunk 441 = .ok (.aload_n 0, 1) := by decide +kernel
theorem dX8_readChunk_442 : decode cX8_readChunk 442 = .ok (.iload 4, 2) := by decide +kernel
theorem dX8_readChunk_444 : decode cX8_readChunk 444 = .ok (.invokevirtual 218, 3) := by decide +kernel
theorem dX8_readChunk_447 : decode cX8_readChunk 447 = .ok (.goto 77, 3) := by decide +kernel
theorem dX8_readChunk_450 : decode cX8_readChunk 450 = .ok (.aload_n 0, 1) := by decide +kernel
theorem dX8_readChunk_451 : decode cX8_readChunk 451 = .ok (.getfield 70, 3) := by decide +kernel
theorem dX8_readChunk_454 : decode cX8_readChunk 454 = .ok (.aload_n 0, 1) := by decide +kernel
theorem dX8_readChunk_455 : decode cX8_readChunk 455 = .ok (.getfield 206, 3) := by decide +kernel
theorem dX8_readChunk_458 : decode cX8_readChunk 458 = .ok (.iload_n 2, 1) := by decide +kernel
theorem dX8_readChunk_459 : decode cX8_readChunk 459 = .ok (.iastore, 1) := by decide +kernel
theorem dX8_readChunk_460 : decode cX8_readChunk 460 = .ok (.aload_n 0, 1) := by decide +kernel
theorem dX8_readChunk_461 : decode cX8_readChunk 461 = .ok (.getfield 73, 3) := by decide +kernel
theorem dX8_readChunk_464 : decode cX8_readChunk 464 = .ok (.aload_n 0, 1) := by decide +kernel
theorem dX8_readChunk_465 : decode cX8_readChunk 465 = .ok (.getfield 206, 3) := by decide +kernel
theorem dX8_readChunk_468 : decode cX8_readChunk 468 = .ok (.iload 4, 2) := by decide +kernel
theorem dX8_readChunk_470 : decode cX8_readChunk 470 = .ok (.iastore, 1) := by decide +kernel
theorem dX8_readChunk_471 : decode cX8_readChunk 471 = .ok (.iconst 0, 1) := by decide +kernel
theorem dX8_readChunk_472 : decode cX8_readChunk 472 = .ok (.istore 6, 2) := by decide +kernel
theorem dX8_readChunk_474 : decode cX8_readChunk 474 = .ok (.iload 6, 2) := by decide +kernel
theorem dX8_readChunk_476 : decode cX8_readChunk 476 = .ok (.iload 4, 2) := by decide +kernel
theorem dX8_readChunk_478 : decode cX8_readChunk 478 = .ok (.if_icmp .ge 36, 3) := by decide +kernel
theorem dX8_readChunk_481 : decode cX8_readChunk 481 = .ok (.aload_n 0, 1) := by decide +kernel
theorem dX8_readChunk_482 : decode cX8_readChunk 482 = .ok (.getfield 76, 3) := by decide +kernel
theorem dX8_readChunk_485 : decode cX8_readChunk 485 = .ok (.bipush 60, 2) := by decide +kernel
theorem dX8_readChunk_487 : decode cX8_readChunk 487 = .ok (.aload_n 0, 1) := by decide +kernel
theorem dX8_readChunk_488 : decode cX8_readChunk 488 = .ok (.getfield 206, 3) := by decide +kernel
theorem dX8_readChunk_491 : decode cX8_readChunk 491 = .ok (.imul, 1) := by decide +kernel
theorem dX8_readChunk_492 : decode cX8_readChunk 492 = .ok (.iload 6, 2) := by decide +kernel
theorem dX8_readChunk_494 : decode cX8_readChunk 494 = .ok (.iadd, 1) := by decide +kernel
theorem dX8_readChunk_495 : decode cX8_readChunk 495 = .ok (.aload_n 0, 1) := by decide +kernel
theorem dX8_readChunk_496 : decode cX8_readChunk 496 = .ok (.getfield 22, 3) := by decide +kernel
theorem dX8_readChunk_499 : decode cX8_readChunk 499 = .ok (.aload_n 0, 1) := by decide +kernel
theorem dX8_readChunk_500 : decode cX8_readChunk 500 = .ok (.getfield 176, 3) := by decide +kernel
theorem dX8_readChunk_503 : decode cX8_readChunk 503 = .ok (.iload 6, 2) := by decide +kernel
theorem dX8_readChunk_505 : decode cX8_readChunk 505 = .ok (.iadd, 1) := by decide +kernel
theorem dX8_readChunk_506 : decode cX8_readChunk 506 = .ok (.iaload, 1) := by decide +kernel
theorem dX8_readChunk_507 : decode cX8_readChunk 507 = .ok (.iastore, 1) := by decide +kernel
theorem dX8_readChunk_508 : decode cX8_readChunk 508 = .ok (.iinc 6 1, 3) := by decide +kernel
theorem dX8_readChunk_511 : decode cX8_readChunk 511 = .ok (.goto (-37), 3) := by decide +kernel
theorem dX8_readChunk_514 : decode cX8_readChunk 514 = .ok (.aload_n 0, 1) := by decide +kernel
theorem dX8_readChunk_515 : decode cX8_readChunk 515 = .ok (.dup, 1) := by decide +kernel
theorem dX8_readChunk_516 : decode cX8_readChunk 516 = .ok (.getfield 206, 3) := by decide +kernel
theorem dX8_readChunk_519 : decode cX8_readChunk 519 = .ok (.iconst 1, 1) := by decide +kernel
theorem dX8_readChunk_520 : decode cX8_readChunk 520 = .ok (.iadd, 1) := by decide +kernel
theorem dX8_readChunk_521 : decode cX8_readChunk 521 = .ok (.putfield 206, 3) := by decide +kernel
theorem dX8_readChunk_524 : decode cX8_readChunk 524 = .ok (.aload_n 0, 1) := by decide +kernel
theorem dX8_readChunk_525 : decode cX8_readChunk 525 = .ok (.dup, 1) := by decide +kernel
theorem dX8_readChunk_526 : decode cX8_readChunk 526 = .ok (.getfield 176, 3) := by decide +kernel
theorem dX8_readChunk_529 : decode cX8_readChunk 529 = .ok (.iload 4, 2) := by decide +kernel
theorem dX8_readChunk_531 : decode cX8_readChunk 531 = .ok (.iload 4, 2) := by decide +kernel
theorem dX8_readChunk_533 : decode cX8_readChunk 533 = .ok (.iconst 2, 1) := by decide +kernel
theorem dX8_readChunk_534 : decode cX8_readChunk 534 = .ok (.irem, 1) := by decide +kernel
theorem dX8_readChunk_535 : decode cX8_readChunk 535 = .ok (.iadd, 1) := by decide +kernel
theorem dX8_readChunk_536 : decode cX8_readChunk 536 = .ok (.iadd, 1) := by decide +kernel
theorem dX8_readChunk_537 : decode cX8_readChunk 537 = .ok (.putfield 176, 3) := by decide +kernel
theorem dX8_readChunk_540 : decode cX8_readChunk 540 = .ok (.return_, 1) := by decide +kernel
theorem dX8_readHead_0 : decode cX8_readHead 0 = .ok (.iload_n 1, 1) := by decide +kernel
theorem dX8_readHead_1 : decode cX8_readHead 1 = .ok (.bipush 16, 2) := by decide +kernel
theorem dX8_readHead_3 : decode cX8_readHead 3 = .ok (.if_icmp .eq 15, 3) := by decide +kernel
theorem dX8_readHead_6 : decode cX8_readHead 6 = .ok (.aload_n 0, 1) := by decide +kernel
theorem dX8_readHead_7 : decode cX8_readHead 7 = .ok (.iconst 5, 1) := by decide +kernel
theorem dX8_readHead_8 : decode cX8_readHead 8 = .ok (.aload_n 0, 1) := by decide +kernel
theorem dX8_readHead_9 : decode cX8_readHead 9 = .ok (.getfield 176, 3) := by decide +kernel
theorem dX8_readHead_12 : decode cX8_readHead 12 = .ok (.iconst 4, 1) := by decide +kernel
theorem dX8_readHead_13 : decode cX8_readHead 13 = .ok (.isub, 1) := by decide +kernel
theorem dX8_readHead_14 : decode cX8_readHead 14 = .ok (.invokevirtual 179, 3) := by decide +kernel
theorem dX8_readHead_17 : decode cX8_readHead 17 = .ok (.return_, 1) := by decide +kernel
theorem dX8_readHead_18 : decode cX8_readHead 18 = .ok (.iconst 0, 1) := by decide +kernel
theorem dX8_readHead_19 : decode cX8_readHead 19 = .ok (.istore_n 2, 1) := by decide +kernel
theorem dX8_readHead_20 : decode cX8_readHead 20 = .ok (.iload_n 2, 1) := by decide +kernel
theorem dX8_readHead_21 : decode cX8_readHead 21 = .ok (.bipush 16, 2) := by decide +kernel
theorem dX8_readHead_23 : decode cX8_readHead 23 = .ok (.if_icmp .ge 39, 3) := by decide +kernel
theorem dX8_readHead_26 : decode cX8_readHead 26 = .ok (.aload_n 0, 1) := by decide +kernel
theorem dX8_readHead_27 : decode cX8_readHead 27 = .ok (.getfield 22, 3) := by decide +kernel
theorem dX8_readHead_30 : decode cX8_readHead 30 = .ok (.aload_n 0, 1) := by decide +kernel
theorem dX8_readHead_31 : decode cX8_readHead 31 = .ok (.getfield 176, 3) := by decide +kernel
theorem dX8_readHead_34 : decode cX8_readHead 34 = .ok (.iload_n 2, 1) := by decide +kernel
theorem dX8_readHead_35 : decode cX8_readHead 35 = .ok (.iadd, 1) := by decide +kernel
theorem dX8_readHead_36 : decode cX8_readHead 36 = .ok (.iaload, 1) := by decide +kernel
theorem dX8_readHead_37 : decode cX8_readHead 37 = .ok (.aload_n 0, 1) := by decide +kernel
theorem dX8_readHead_38 : decode cX8_readHead 38 = .ok (.iload_n 2, 1) := by decide +kernel
theorem dX8_readHead_39 : decode cX8_readHead 39 = .ok (.invokevirtual 104, 3) := by decide +kernel
theorem dX8_readHead_42 : decode cX8_readHead 42 = .ok (.if_icmp .eq 14, 3) := by decide +kernel
theorem dX8_readHead_45 : decode cX8_readHead 45 = .ok (.aload_n 0, 1) := by decide +kernel
theorem dX8_readHead_46 : decode cX8_readHead 46 = .ok (.iconst 3, 1) := by decide +kernel
theorem dX8_readHead_47 : decode cX8_readHead 47 = .ok (.aload_n 0, 1) := by decide +kernel
theorem dX8_readHead_48 : decode cX8_readHead 48 = .ok (.getfield 176, 3) := by decide +kernel
theorem dX8_readHead_51 : decode cX8_readHead 51 = .ok (.iload_n 2, 1) := by decide +kernel
theorem dX8_readHead_52 : decode cX8_readHead 52 = .ok (.iadd, 1) := by decide +kernel
theorem dX8_readHead_53 : decode cX8_readHead 53 = .ok (.invokevirtual 179, 3) := by decide +kernel
theorem dX8_readHead_56 : decode cX8_readHead 56 = .ok (.iinc 2 1, 3) := by decide +kernel
theorem dX8_readHead_59 : decode cX8_readHead 59 = .ok (.goto (-39), 3) := by decide +kernel
theorem dX8_readHead_62 : decode cX8_readHead 62 = .ok (.return_, 1) := by decide +kernel
theorem dX8_readMemory_0 : decode cX8_readMemory 0 = .ok (.iload_n 1, 1) := by decide +kernel
theorem dX8_readMemory_1 : decode cX8_readMemory 1 = .ok (.iconst 4, 1) := by decide +kernel
theorem dX8_readMemory_2 : decode cX8_readMemory 2 = .ok (.if_icmp .ge 15, 3) := by decide +kernel
theorem dX8_readMemory_5 : decode cX8_readMemory 5 = .ok (.aload_n 0, 1) := by decide +kernel
theorem dX8_readMemory_6 : decode cX8_readMemory 6 = .ok (.iconst 5, 1) := by decide +kernel
theorem dX8_readMemory_7 : decode cX8_readMemory 7 = .ok (.aload_n 0, 1) := by decide +kernel
theorem dX8_readMemory_8 : decode cX8_readMemory 8 = .ok (.getfield 176, 3) := by decide +kernel
theorem dX8_readMemory_11 : decode cX8_readMemory 11 = .ok (.iconst 4, 1) := by decide +kernel
theorem dX8_readMemory_12 : decode cX8_readMemory 12 = .ok (.isub, 1) := by decide +kernel
theorem dX8_readMemory_13 : decode cX8_readMemory 13 = .ok (.invokevirtual 179, 3) := by decide +kernel
theorem dX8_readMemory_16 : decode cX8_readMemory 16 = .ok (.return_, 1) := by decide +kernel
theorem dX8_readMemory_17 : decode cX8_readMemory 17 = .ok (.aload_n 0, 1) := by decide +kernel
theorem dX8_readMemory_18 : decode cX8_readMemory 18 = .ok (.aload_n 0, 1) := by decide +kernel
theorem dX8_readMemory_19 : decode cX8_readMemory 19 = .ok (.aload_n 0, 1) := by decide +kernel
theorem dX8_readMemory_20 : decode cX8_readMemory 20 = .ok (.getfield 176, 3) := by decide +kernel
theorem dX8_readMemory_23 : decode cX8_readMemory 23 = .ok (.invokevirtual 191, 3) := by decide +kernel
theorem dX8_readMemory_26 : decode cX8_readMemory 26 = .ok (.putfield 221, 3) := by decide +kernel
theorem dX8_readMemory_29 : decode cX8_readMemory 29 = .ok (.aload_n 0, 1) := by decide +kernel
theorem dX8_readMemory_30 : decode cX8_readMemory 30 = .ok (.aload_n 0, 1) := by decide +kernel
theorem dX8_readMemory_31 : decode cX8_readMemory 31 = .ok (.getfield 221, 3) := by decide +kernel
theorem dX8_readMemory_34 : decode cX8_readMemory 34 = .ok (.invokevirtual 115, 3) := by decide +kernel
theorem dX8_readMemory_37 : decode cX8_readMemory 37 = .ok (.ifCond .ne 14, 3) := by decide +kernel
theorem dX8_readMemory_40 : decode cX8_readMemory 40 = .ok (.aload_n 0, 1) := by decide +kernel
theorem dX8_readMemory_41 : decode cX8_readMemory 41 = .ok (.bipush 6, 2) := by decide +kernel
theorem dX8_readMemory_43 : decode cX8_readMemory 43 = .ok (.aload_n 0, 1) := by decide +kernel
theorem dX8_readMemory_44 : decode cX8_readMemory 44 = .ok (.getfield 176, 3) := by decide +kernel
theorem dX8_readMemory_47 : decode cX8_readMemory 47 = .ok (.invokevirtual 179, 3) := by decide +kernel
theorem dX8_readMemory_50 : decode cX8_readMemory 50 = .ok (.return_, 1) := by decide +kernel
theorem dX8_readMemory_51 : decode cX8_readMemory 51 = .ok (.iconst 0, 1) := by decide +kernel
theorem dX8_readMemory_52 : decode cX8_readMemory 52 = .ok (.istore_n 2, 1) := by decide +kernel
theorem dX8_readMemory_53 : decode cX8_readMemory 53 = .ok (.iload_n 2, 1) := by decide +kernel
theorem dX8_readMemory_54 : decode cX8_readMemory 54 = .ok (.aload_n 0, 1) := by decide +kernel
theorem dX8_readMemory_55 : decode cX8_readMemory 55 = .ok (.getfield 221, 3) := by decide +kernel
theorem dX8_readMemory_58 : decode cX8_readMemory 58 = .ok (.if_icmp .ge 20, 3) := by decide +kernel
theorem dX8_readMemory_61 : decode cX8_readMemory 61 = .ok (.aload_n 0, 1) := by decide +kernel
theorem dX8_readMemory_62 : decode cX8_readMemory 62 = .ok (.getfield 58, 3) := by decide +kernel
theorem dX8_readMemory_65 : decode cX8_readMemory 65 = .ok (.iload_n 2, 1) := by decide +kernel
theorem dX8_readMemory_66 : decode cX8_readMemory 66 = .ok (.aload_n 0, 1) := by decide +kernel
theorem dX8_readMemory_67 : decode cX8_readMemory 67 = .ok (.iload_n 2, 1) := by decide +kernel
theorem dX8_readMemory_68 : decode cX8_readMemory 68 = .ok (.invokevirtual 104, 3) := by decide +kernel
theorem dX8_readMemory_71 : decode cX8_readMemory 71 = .ok (.iastore, 1) := by decide +kernel
theorem dX8_readMemory_72 : decode cX8_readMemory 72 = .ok (.iinc 2 1, 3) := by decide +kernel
theorem dX8_readMemory_75 : decode cX8_readMemory 75 = .ok (.goto (-22), 3) := by decide +kernel
theorem dX8_readMemory_78 : decode cX8_readMemory 78 = .ok (.aload_n 0, 1) := by decide +kernel
theorem dX8_readMemory_79 : decode cX8_readMemory 79 = .ok (.getfield 91, 3) := by decide +kernel
theorem dX8_readMemory_82 : decode cX8_readMemory 82 = .ok (.istore_n 2, 1) := by decide +kernel
theorem dX8_readMemory_83 : decode cX8_readMemory 83 = .ok (.aload_n 0, 1) := by decide +kernel
theorem dX8_readMemory_84 : decode cX8_readMemory 84 = .ok (.getfield 176, 3) := by decide +kernel
theorem dX8_readMemory_87 : decode cX8_readMemory 87 = .ok (.iconst 4, 1) := by decide +kernel
theorem dX8_readMemory_88 : decode cX8_readMemory 88 = .ok (.iadd, 1) := by decide +kernel
theorem dX8_readMemory_89 : decode cX8_readMemory 89 = .ok (.istore_n 3, 1) := by decide +kernel
theorem dX8_readMemory_90 : decode cX8_readMemory 90 = .ok (.iload_n 3, 1) := by decide +kernel
theorem dX8_readMemory_91 : decode cX8_readMemory 91 = .ok (.aload_n 0, 1) := by decide +kernel
theorem dX8_readMemory_92 : decode cX8_readMemory 92 = .ok (.getfield 176, 3) := by decide +kernel
theorem dX8_readMemory_95 : decode cX8_readMemory 95 = .ok (.iload_n 1, 1) := by decide +kernel
theorem dX8_readMemory_96 : decode cX8_readMemory 96 = .ok (.iadd, 1) := by decide +kernel
theorem dX8_readMemory_97 : decode cX8_readMemory 97 = .ok (.if_icmp .ge 121, 3) := by decide +kernel
theorem dX8_readMemory_100 : decode cX8_readMemory 100 = .ok (.aload_n 0, 1) := by decide +kernel
theorem dX8_readMemory_101 : decode cX8_readMemory 101 = .ok (.getfield 170, 3) := by decide +kernel
theorem dX8_readMemory_104 : decode cX8_readMemory 104 = .ok (.ifCond .ne 114, 3) := by decide +kernel
theorem dX8_readMemory_107 : decode cX8_readMemory 107 = .ok (.aload_n 0, 1) := by decide +kernel
theorem dX8_readMemory_108 : decode cX8_readMemory 108 = .ok (.getfield 22, 3) := by decide +kernel
theorem dX8_readMemory_111 : decode cX8_readMemory 111 = .ok (.iload_n 3, 1) := by decide +kernel
theorem dX8_readMemory_112 : decode cX8_readMemory 112 = .ok (.iaload, 1) := by decide +kernel
theorem dX8_readMemory_113 : decode cX8_readMemory 113 = .ok (.istore 4, 2) := by decide +kernel
theorem dX8_readMemory_115 : decode cX8_readMemory 115 = .ok (.iload 4, 2) := by decide +kernel
theorem dX8_readMemory_117 : decode cX8_readMemory 117 = .ok (.ifCond .eq 38, 3) := by decide +kernel
theorem dX8_readMemory_120 : decode cX8_readMemory 120 = .ok (.iload_n 2, 1) := by decide +kernel
theorem dX8_readMemory_121 : decode cX8_readMemory 121 = .ok (.aload_n 0, 1) := by decide +kernel
theorem dX8_readMemory_122 : decode cX8_readMemory 122 = .ok (.getfield 221, 3) := by decide +kernel
theorem dX8_readMemory_125 : decode cX8_readMemory 125 = .ok (.if_icmp .lt 13, 3) := by decide +kernel
theorem dX8_readMemory_128 : decode cX8_readMemory 128 = .ok (.aload_n 0, 1) := by decide +kernel
theorem dX8_readMemory_129 : decode cX8_readMemory 129 = .ok (.bipush 6, 2) := by decide +kernel
theorem dX8_readMemory_131 : decode cX8_readMemory 131 = .ok (.iload_n 3, 1) := by decide +kernel
theorem dX8_readMemory_132 : decode cX8_readMemory 132 = .ok (.invokevirtual 179, 3) := by decide +kernel
theorem dX8_readMemory_135 : decode cX8_readMemory 135 = .ok (.goto 77, 3) := by decide +kernel
theorem dX8_readMemory_138 : decode cX8_readMemory 138 = .ok (.aload_n 0, 1) := by decide +kernel
theorem dX8_readMemory_139 : decode cX8_readMemory 139 = .ok (.getfield 58, 3) := by decide +kernel
theorem dX8_readMemory_142 : decode cX8_readMemory 142 = .ok (.iload_n 2, 1) := by decide +kernel
theorem dX8_readMemory_143 : decode cX8_readMemory 143 = .ok (.dup2, 1) := by decide +kernel
theorem dX8_readMemory_144 : decode cX8_readMemory 144 = .ok (.iaload, 1) := by decide +kernel
theorem dX8_readMemory_145 : decode cX8_readMemory 145 = .ok (.iload 4, 2) := by decide +kernel
theorem dX8_readMemory_147 : decode cX8_readMemory 147 = .ok (.ixor, 1) := by decide +kernel
theorem dX8_readMemory_148 : decode cX8_readMemory 148 = .ok (.iastore, 1) := by decide +kernel
theorem dX8_readMemory_149 : decode cX8_readMemory 149 = .ok (.iinc 2 1, 3) := by decide +kernel
theorem dX8_readMemory_152 : decode cX8_readMemory 152 = .ok (.goto 60, 3) := by decide +kernel
theorem dX8_readMemory_155 : decode cX8_readMemory 155 = .ok (.iload_n 3, 1) := by decide +kernel
theorem dX8_readMemory_156 : decode cX8_readMemory 156 = .ok (.iconst 1, 1) := by decide +kernel
theorem dX8_readMemory_157 : decode cX8_readMemory 157 = .ok (.iadd, 1) := by decide +kernel
theorem dX8_readMemory_158 : decode cX8_readMemory 158 = .ok (.aload_n 0, 1) := by decide +kernel
theorem dX8_readMemory_159 : decode cX8_readMemory 159 = .ok (.getfield 176, 3) := by decide +kernel
theorem dX8_readMemory_162 : decode cX8_readMemory 162 = .ok (.iload_n 1, 1) := by decide +kernel
theorem dX8_readMemory_163 : decode cX8_readMemory 163 = .ok (.iadd, 1) := by decide +kernel
theorem dX8_readMemory_164 : decode cX8_readMemory 164 = .ok (.if_icmp .ge 22, 3) := by decide +kernel
theorem dX8_readMemory_167 : decode cX8_readMemory 167 = .ok (.iload_n 2, 1) := by decide +kernel
theorem dX8_readMemory_168 : decode cX8_readMemory 168 = .ok (.aload_n 0, 1) := by decide +kernel
theorem dX8_readMemory_169 : decode cX8_readMemory 169 = .ok (.getfield 22, 3) := by decide +kernel
theorem dX8_readMemory_172 : decode cX8_readMemory 172 = .ok (.iload_n 3, 1) := by decide +kernel
theorem dX8_readMemory_173 : decode cX8_readMemory 173 = .ok (.iconst 1, 1) := by decide +kernel
theorem dX8_readMemory_174 : decode cX8_readMemory 174 = .ok (.iadd, 1) := by decide +kernel
theorem dX8_readMemory_175 : decode cX8_readMemory 175 = .ok (.iaload, 1) := by decide +kernel
theorem dX8_readMemory_176 : decode cX8_readMemory 176 = .ok (.iadd, 1) := by decide +kernel
theorem dX8_readMemory_177 : decode cX8_readMemory 177 = .ok (.iconst 1, 1) := by decide +kernel
theorem dX8_readMemory_178 : decode cX8_readMemory 178 = .ok (.iadd, 1) := by decide +kernel
theorem dX8_readMemory_179 : decode cX8_readMemory 179 = .ok (.aload_n 0, 1) := by decide +kernel
theorem dX8_readMemory_180 : decode cX8_readMemory 180 = .ok (.getfield 221, 3) := by decide +kernel
theorem dX8_readMemory_183 : decode cX8_readMemory 183 = .ok (.if_icmp .le 13, 3) := by decide +kernel
theorem dX8_readMemory_186 : decode cX8_readMemory 186 = .ok (.aload_n 0, 1) := by decide +kernel
theorem dX8_readMemory_187 : decode cX8_readMemory 187 = .ok (.bipush 6, 2) := by decide +kernel
theorem dX8_readMemory_189 : decode cX8_readMemory 189 = .ok (.iload_n 3, 1) := by decide +kernel
theorem dX8_readMemory_190 : decode cX8_readMemory 190 = .ok (.invokevirtual 179, 3) := by decide +kernel
theorem dX8_readMemory_193 : decode cX8_readMemory 193 = .ok (.goto 19, 3) := by decide +kernel
theorem dX8_readMemory_196 : decode cX8_readMemory 196 = .ok (.iload_n 2, 1) := by decide +kernel
theorem dX8_readMemory_197 : decode cX8_readMemory 197 = .ok (.aload_n 0, 1) := by decide +kernel
theorem dX8_readMemory_198 : decode cX8_readMemory 198 = .ok (.getfield 22, 3) := by decide +kernel
theorem dX8_readMemory_201 : decode cX8_readMemory 201 = .ok (.iload_n 3, 1) := by decide +kernel
theorem dX8_readMemory_202 : decode cX8_readMemory 202 = .ok (.iconst 1, 1) := by decide +kernel
theorem dX8_readMemory_203 : decode cX8_readMemory 203 = .ok (.iadd, 1) := by decide +kernel
theorem dX8_readMemory_204 : decode cX8_readMemory 204 = .ok (.iaload, 1) := by decide +kernel
theorem dX8_readMemory_205 : decode cX8_readMemory 205 = .ok (.iconst 1, 1) := by decide +kernel
theorem dX8_readMemory_206 : decode cX8_readMemory 206 = .ok (.iadd, 1) := by decide +kernel
theorem dX8_readMemory_207 : decode cX8_readMemory 207 = .ok (.iadd, 1) := by decide +kernel
theorem dX8_readMemory_208 : decode cX8_readMemory 208 = .ok (.istore_n 2, 1) := by decide +kernel
theorem dX8_readMemory_209 : decode cX8_readMemory 209 = .ok (.iinc 3 1, 3) := by decide +kernel
theorem dX8_readMemory_212 : decode cX8_readMemory 212 = .ok (.iinc 3 1, 3) := by decide +kernel
theorem dX8_readMemory_215 : decode cX8_readMemory 215 = .ok (.goto (-125), 3) := by decide +kernel
theorem dX8_readMemory_218 : decode cX8_readMemory 218 = .ok (.return_, 1) := by decide +kernel
theorem dX8_readStack_0 : decode cX8_readStack 0 = .ok (.iload_n 1, 1) := by decide +kernel
theorem dX8_readStack_1 : decode cX8_readStack 1 = .ok (.iconst 4, 1) := by decide +kernel
theorem dX8_readStack_2 : decode cX8_readStack 2 = .ok (.irem, 1) := by decide +kernel
theorem dX8_readStack_3 : decode cX8_readStack 3 = .ok (.ifCond .ne 10, 3) := by decide +kernel
theorem dX8_readStack_6 : decode cX8_readStack 6 = .ok (.iload_n 1, 1) := by decide +kernel
theorem dX8_readStack_7 : decode cX8_readStack 7 = .ok (.sipush 160, 3) := by decide +kernel
theorem dX8_readStack_10 : decode cX8_readStack 10 = .ok (.if_icmp .le 15, 3) := by decide +kernel
theorem dX8_readStack_13 : decode cX8_readStack 13 = .ok (.aload_n 0, 1) := by decide +kernel
theorem dX8_readStack_14 : decode cX8_readStack 14 = .ok (.iconst 5, 1) := by decide +kernel
theorem dX8_readStack_15 : decode cX8_readStack 15 = .ok (.aload_n 0, 1) := by decide +kernel
theorem dX8_readStack_16 : decode cX8_readStack 16 = .ok (.getfield 176, 3) := by decide +kernel
theorem dX8_readStack_19 : decode cX8_readStack 19 = .ok (.iconst 4, 1) := by decide +kernel
theorem dX8_readStack_20 : decode cX8_readStack 20 = .ok (.isub, 1) := by decide +kernel
theorem dX8_readStack_21 : decode cX8_readStack 21 = .ok (.invokevirtual 179, 3) := by decide +kernel
theorem dX8_readStack_24 : decode cX8_readStack 24 = .ok (.return_, 1) := by decide +kernel
theorem dX8_readStack_25 : decode cX8_readStack 25 = .ok (.aload_n 0, 1) := by decide +kernel
theorem dX8_readStack_26 : decode cX8_readStack 26 = .ok (.iload_n 1, 1) := by decide +kernel
theorem dX8_readStack_27 : decode cX8_readStack 27 = .ok (.iconst 4, 1) := by decide +kernel
theorem dX8_readStack_28 : decode cX8_readStack 28 = .ok (.idiv, 1) := by decide +kernel
theorem dX8_readStack_29 : decode cX8_readStack 29 = .ok (.putfield 224, 3) := by decide +kernel
theorem dX8_readStack_32 : decode cX8_readStack 32 = .ok (.iconst 0, 1) := by decide +kernel
theorem dX8_readStack_33 : decode cX8_readStack 33 = .ok (.istore_n 2, 1) := by decide +kernel
theorem dX8_readStack_34 : decode cX8_readStack 34 = .ok (.iload_n 2, 1) := by decide +kernel
theorem dX8_readStack_35 : decode cX8_readStack 35 = .ok (.aload_n 0, 1) := by decide +kernel
theorem dX8_readStack_36 : decode cX8_readStack 36 = .ok (.getfield 224, 3) := by decide +kernel
theorem dX8_readStack_39 : decode cX8_readStack 39 = .ok (.if_icmp .ge 27, 3) := by decide +kernel
theorem dX8_readStack_42 : decode cX8_readStack 42 = .ok (.aload_n 0, 1) := by decide +kernel
theorem dX8_readStack_43 : decode cX8_readStack 43 = .ok (.getfield 61, 3) := by decide +kernel
theorem dX8_readStack_46 : decode cX8_readStack 46 = .ok (.iload_n 2, 1) := by decide +kernel
theorem dX8_readStack_47 : decode cX8_readStack 47 = .ok (.aload_n 0, 1) := by decide +kernel
theorem dX8_readStack_48 : decode cX8_readStack 48 = .ok (.aload_n 0, 1) := by decide +kernel
theorem dX8_readStack_49 : decode cX8_readStack 49 = .ok (.getfield 176, 3) := by decide +kernel
theorem dX8_readStack_52 : decode cX8_readStack 52 = .ok (.iconst 4, 1) := by decide +kernel
theorem dX8_readStack_53 : decode cX8_readStack 53 = .ok (.iload_n 2, 1) := by decide +kernel
theorem dX8_readStack_54 : decode cX8_readStack 54 = .ok (.imul, 1) := by decide +kernel
theorem dX8_readStack_55 : decode cX8_readStack 55 = .ok (.iadd, 1) := by decide +kernel
theorem dX8_readStack_56 : decode cX8_readStack 56 = .ok (.invokevirtual 191, 3) := by decide +kernel
theorem dX8_readStack_59 : decode cX8_readStack 59 = .ok (.iastore, 1) := by decide +kernel
theorem dX8_readStack_60 : decode cX8_readStack 60 = .ok (.iinc 2 1, 3) := by decide +kernel
theorem dX8_readStack_63 : decode cX8_readStack 63 = .ok (.goto (-29), 3) := by decide +kernel
theorem dX8_readStack_66 : decode cX8_readStack 66 = .ok (.return_, 1) := by decide +kernel
theorem dX8_readBlocks_0 : decode cX8_readBlocks 0 = .ok (.iload_n 1, 1) := by decide +kernel
theorem dX8_readBlocks_1 : decode cX8_readBlocks 1 = .ok (.i2l, 1) := by decide +kernel
theorem dX8_readBlocks_2 : decode cX8_readBlocks 2 = .ok (.ldc2_w 202, 3) := by decide +kernel
theorem dX8_readBlocks_5 : decode cX8_readBlocks 5 = .ok (.ldc2_w 204, 3) := by decide +kernel
theorem dX8_readBlocks_8 : decode cX8_readBlocks 8 = .ok (.invokestatic 87, 3) := by decide +kernel
theorem dX8_readBlocks_11 : decode cX8_readBlocks 11 = .ok (.ifCond .eq 11, 3) := by decide +kernel
theorem dX8_readBlocks_14 : decode cX8_readBlocks 14 = .ok (.iload_n 1, 1) := by decide +kernel
theorem dX8_readBlocks_15 : decode cX8_readBlocks 15 = .ok (.bipush 8, 2) := by decide +kernel
theorem dX8_readBlocks_17 : decode cX8_readBlocks 17 = .ok (.irem, 1) := by decide +kernel
theorem dX8_readBlocks_18 : decode cX8_readBlocks 18 = .ok (.iconst 4, 1) := by decide +kernel
theorem dX8_readBlocks_19 : decode cX8_readBlocks 19 = .ok (.if_icmp .eq 15, 3) := by decide +kernel
theorem dX8_readBlocks_22 : decode cX8_readBlocks 22 = .ok (.aload_n 0, 1) := by decide +kernel
theorem dX8_readBlocks_23 : decode cX8_readBlocks 23 = .ok (.iconst 5, 1) := by decide +kernel
theorem dX8_readBlocks_24 : decode cX8_readBlocks 24 = .ok (.aload_n 0, 1) := by decide +kernel
theorem dX8_readBlocks_25 : decode cX8_readBlocks 25 = .ok (.getfield 176, 3) := by decide +kernel
theorem dX8_readBlocks_28 : decode cX8_readBlocks 28 = .ok (.iconst 4, 1) := by decide +kernel
theorem dX8_readBlocks_29 : decode cX8_readBlocks 29 = .ok (.isub, 1) := by decide +kernel
theorem dX8_readBlocks_30 : decode cX8_readBlocks 30 = .ok (.invokevirtual 179, 3) := by decide +kernel
theorem dX8_readBlocks_33 : decode cX8_readBlocks 33 = .ok (.return_, 1) := by decide +kernel
theorem dX8_readBlocks_34 : decode cX8_readBlocks 34 = .ok (.aload_n 0, 1) := by decide +kernel
theorem dX8_readBlocks_35 : decode cX8_readBlocks 35 = .ok (.iload_n 1, 1) := by decide +kernel
theorem dX8_readBlocks_36 : decode cX8_readBlocks 36 = .ok (.iconst 4, 1) := by decide +kernel
theorem dX8_readBlocks_37 : decode cX8_readBlocks 37 = .ok (.isub, 1) := by decide +kernel
theorem dX8_readBlocks_38 : decode cX8_readBlocks 38 = .ok (.bipush 8, 2) := by decide +kernel
theorem dX8_readBlocks_40 : decode cX8_readBlocks 40 = .ok (.idiv, 1) := by decide +kernel
theorem dX8_readBlocks_41 : decode cX8_readBlocks 41 = .ok (.putfield 227, 3) := by decide +kernel
theorem dX8_readBlocks_44 : decode cX8_readBlocks 44 = .ok (.aload_n 0, 1) := by decide +kernel
theorem dX8_readBlocks_45 : decode cX8_readBlocks 45 = .ok (.aload_n 0, 1) := by decide +kernel
theorem dX8_readBlocks_46 : decode cX8_readBlocks 46 = .ok (.getfield 176, 3) := by decide +kernel
theorem dX8_readBlocks_49 : decode cX8_readBlocks 49 = .ok (.invokevirtual 191, 3) := by decide +kernel
theorem dX8_readBlocks_52 : decode cX8_readBlocks 52 = .ok (.aload_n 0, 1) := by decide +kernel
theorem dX8_readBlocks_53 : decode cX8_readBlocks 53 = .ok (.getfield 227, 3) := by decide +kernel
theorem dX8_readBlocks_56 : decode cX8_readBlocks 56 = .ok (.if_icmp .eq 14, 3) := by decide +kernel
theorem dX8_readBlocks_59 : decode cX8_readBlocks 59 = .ok (.aload_n 0, 1) := by decide +kernel
theorem dX8_readBlocks_60 : decode cX8_readBlocks 60 = .ok (.bipush 7, 2) := by decide +kernel
theorem dX8_readBlocks_62 : decode cX8_readBlocks 62 = .ok (.aload_n 0, 1) := by decide +kernel
theorem dX8_readBlocks_63 : decode cX8_readBlocks 63 = .ok (.getfield 176, 3) := by decide +kernel
theorem dX8_readBlocks_66 : decode cX8_readBlocks 66 = .ok (.invokevirtual 179, 3) := by decide +kernel
theorem dX8_readBlocks_69 : decode cX8_readBlocks 69 = .ok (.return_, 1) := by decide +kernel
theorem dX8_readBlocks_70 : decode cX8_readBlocks 70 = .ok (.aload_n 0, 1) := by decide +kernel
theorem dX8_readBlocks_71 : decode cX8_readBlocks 71 = .ok (.getfield 98, 3) := by decide +kernel
theorem dX8_readBlocks_74 : decode cX8_readBlocks 74 = .ok (.istore_n 2, 1) := by decide +kernel
theorem dX8_readBlocks_75 : decode cX8_readBlocks 75 = .ok (.iconst 0, 1) := by decide +kernel
theorem dX8_readBlocks_76 : decode cX8_readBlocks 76 = .ok (.istore_n 3, 1) := by decide +kernel
theorem dX8_readBlocks_77 : decode cX8_readBlocks 77 = .ok (.iload_n 3, 1) := by decide +kernel
theorem dX8_readBlocks_78 : decode cX8_readBlocks 78 = .ok (.aload_n 0, 1) := by decide +kernel
theorem dX8_readBlocks_79 : decode cX8_readBlocks 79 = .ok (.getfield 227, 3) := by decide +kernel
theorem dX8_readBlocks_82 : decode cX8_readBlocks 82 = .ok (.if_icmp .ge 127, 3) := by decide +kernel
theorem dX8_readBlocks_85 : decode cX8_readBlocks 85 = .ok (.aload_n 0, 1) := by decide +kernel
theorem dX8_readBlocks_86 : decode cX8_readBlocks 86 = .ok (.getfield 170, 3) := by decide +kernel
theorem dX8_readBlocks_89 : decode cX8_readBlocks 89 = .ok (.ifCond .ne 120, 3) := by decide +kernel
theorem dX8_readBlocks_92 : decode cX8_readBlocks 92 = .ok (.aload_n 0, 1) := by decide +kernel
theorem dX8_readBlocks_93 : decode cX8_readBlocks 93 = .ok (.getfield 176, 3) := by decide +kernel
theorem dX8_readBlocks_96 : decode cX8_readBlocks 96 = .ok (.iconst 4, 1) := by decide +kernel
theorem dX8_readBlocks_97 : decode cX8_readBlocks 97 = .ok (.iadd, 1) := by decide +kernel
theorem dX8_readBlocks_98 : decode cX8_readBlocks 98 = .ok (.bipush 8, 2) := by decide +kernel
theorem dX8_readBlocks_100 : decode cX8_readBlocks 100 = .ok (.iload_n 3, 1) := by decide +kernel
theorem dX8_readBlocks_101 : decode cX8_readBlocks 101 = .ok (.imul, 1) := by decide +kernel
theorem dX8_readBlocks_102 : decode cX8_readBlocks 102 = .ok (.iadd, 1) := by decide +kernel
theorem dX8_readBlocks_103 : decode cX8_readBlocks 103 = .ok (.istore 4, 2) := by decide +kernel
theorem dX8_readBlocks_105 : decode cX8_readBlocks 105 = .ok (.aload_n 0, 1) := by decide +kernel
theorem dX8_readBlocks_106 : decode cX8_readBlocks 106 = .ok (.getfield 64, 3) := by decide +kernel
theorem dX8_readBlocks_109 : decode cX8_readBlocks 109 = .ok (.iload_n 3, 1) := by decide +kernel
theorem dX8_readBlocks_110 : decode cX8_readBlocks 110 = .ok (.aload_n 0, 1) := by decide +kernel
theorem dX8_readBlocks_111 : decode cX8_readBlocks 111 = .ok (.iload 4, 2) := by decide +kernel
theorem dX8_readBlocks_113 : decode cX8_readBlocks 113 = .ok (.invokevirtual 191, 3) := by decide +kernel
theorem dX8_readBlocks_116 : decode cX8_readBlocks 116 = .ok (.iastore, 1) := by decide +kernel
theorem dX8_readBlocks_117 : decode cX8_readBlocks 117 = .ok (.aload_n 0, 1) := by decide +kernel
theorem dX8_readBlocks_118 : decode cX8_readBlocks 118 = .ok (.getfield 67, 3) := by decide +kernel
theorem dX8_readBlocks_121 : decode cX8_readBlocks 121 = .ok (.iload_n 3, 1) := by decide +kernel
theorem dX8_readBlocks_122 : decode cX8_readBlocks 122 = .ok (.aload_n 0, 1) := by decide +kernel
theorem dX8_readBlocks_123 : decode cX8_readBlocks 123 = .ok (.iload 4, 2) := by decide +kernel
theorem dX8_readBlocks_125 : decode cX8_readBlocks 125 = .ok (.iconst 4, 1) := by decide +kernel
theorem dX8_readBlocks_126 : decode cX8_readBlocks 126 = .ok (.iadd, 1) := by decide +kernel
theorem dX8_readBlocks_127 : decode cX8_readBlocks 127 = .ok (.invokevirtual 191, 3) := by decide +kernel
theorem dX8_readBlocks_130 : decode cX8_readBlocks 130 = .ok (.iastore, 1) := by decide +kernel
theorem dX8_readBlocks_131 : decode cX8_readBlocks 131 = .ok (.aload_n 0, 1) := by decide +kernel
theorem dX8_readBlocks_132 : decode cX8_readBlocks 132 = .ok (.getfield 67, 3) := by decide +kernel
theorem dX8_readBlocks_135 : decode cX8_readBlocks 135 = .ok (.iload_n 3, 1) := by decide +kernel
theorem dX8_readBlocks_136 : decode cX8_readBlocks 136 = .ok (.iaload, 1) := by decide +kernel
theorem dX8_readBlocks_137 : decode cX8_readBlocks 137 = .ok (.i2l, 1) := by decide +kernel
theorem dX8_readBlocks_138 : decode cX8_readBlocks 138 = .ok (.lconst 1, 1) := by decide +kernel
theorem dX8_readBlocks_139 : decode cX8_readBlocks 139 = .ok (.ldc2_w 125, 3) := by decide +kernel
theorem dX8_readBlocks_142 : decode cX8_readBlocks 142 = .ok (.invokestatic 87, 3) := by decide +kernel
theorem dX8_readBlocks_145 : decode cX8_readBlocks 145 = .ok (.ifCond .eq 33, 3) := by decide +kernel
theorem dX8_readBlocks_148 : decode cX8_readBlocks 148 = .ok (.aload_n 0, 1) := by decide +kernel
theorem dX8_readBlocks_149 : decode cX8_readBlocks 149 = .ok (.getfield 64, 3) := by decide +kernel
theorem dX8_readBlocks_152 : decode cX8_readBlocks 152 = .ok (.iload_n 3, 1) := by decide +kernel
theorem dX8_readBlocks_153 : decode cX8_readBlocks 153 = .ok (.iaload, 1) := by decide +kernel
theorem dX8_readBlocks_154 : decode cX8_readBlocks 154 = .ok (.iload_n 2, 1) := by decide +kernel
theorem dX8_readBlocks_155 : decode cX8_readBlocks 155 = .ok (.if_icmp .lt 23, 3) := by decide +kernel
theorem dX8_readBlocks_158 : decode cX8_readBlocks 158 = .ok (.aload_n 0, 1) := by decide +kernel
theorem dX8_readBlocks_159 : decode cX8_readBlocks 159 = .ok (.getfield 64, 3) := by decide +kernel
theorem dX8_readBlocks_162 : decode cX8_readBlocks 162 = .ok (.iload_n 3, 1) := by decide +kernel
theorem dX8_readBlocks_163 : decode cX8_readBlocks 163 = .ok (.iaload, 1) := by decide +kernel
theorem dX8_readBlocks_164 : decode cX8_readBlocks 164 = .ok (.aload_n 0, 1) := by decide +kernel
theorem dX8_readBlocks_165 : decode cX8_readBlocks 165 = .ok (.getfield 221, 3) := by decide +kernel
theorem dX8_readBlocks_168 : decode cX8_readBlocks 168 = .ok (.aload_n 0, 1) := by decide +kernel
theorem dX8_readBlocks_169 : decode cX8_readBlocks 169 = .ok (.getfield 67, 3) := by decide +kernel
theorem dX8_readBlocks_172 : decode cX8_readBlocks 172 = .ok (.iload_n 3, 1) := by decide +kernel
theorem dX8_readBlocks_173 : decode cX8_readBlocks 173 = .ok (.iaload, 1) := by decide +kernel
theorem dX8_readBlocks_174 : decode cX8_readBlocks 174 = .ok (.isub, 1) := by decide +kernel
theorem dX8_readBlocks_175 : decode cX8_readBlocks 175 = .ok (.if_icmp .le 14, 3) := by decide +kernel
theorem dX8_readBlocks_178 : decode cX8_readBlocks 178 = .ok (.aload_n 0, 1) := by decide +kernel
theorem dX8_readBlocks_179 : decode cX8_readBlocks 179 = .ok (.bipush 7, 2) := by decide +kernel
theorem dX8_readBlocks_181 : decode cX8_readBlocks 181 = .ok (.iload 4, 2) := by decide +kernel
theorem dX8_readBlocks_183 : decode cX8_readBlocks 183 = .ok (.invokevirtual 179, 3) := by decide +kernel
theorem dX8_readBlocks_186 : decode cX8_readBlocks 186 = .ok (.goto 17, 3) := by decide +kernel
theorem dX8_readBlocks_189 : decode cX8_readBlocks 189 = .ok (.aload_n 0, 1) := by decide +kernel
theorem dX8_readBlocks_190 : decode cX8_readBlocks 190 = .ok (.getfield 64, 3) := by decide +kernel
theorem dX8_readBlocks_193 : decode cX8_readBlocks 193 = .ok (.iload_n 3, 1) := by decide +kernel
theorem dX8_readBlocks_194 : decode cX8_readBlocks 194 = .ok (.iaload, 1) := by decide +kernel
theorem dX8_readBlocks_195 : decode cX8_readBlocks 195 = .ok (.aload_n 0, 1) := by decide +kernel
theorem dX8_readBlocks_196 : decode cX8_readBlocks 196 = .ok (.getfield 67, 3) := by decide +kernel
theorem dX8_readBlocks_199 : decode cX8_readBlocks 199 = .ok (.iload_n 3, 1) := by decide +kernel
theorem dX8_readBlocks_200 : decode cX8_readBlocks 200 = .ok (.iaload, 1) := by decide +kernel
theorem dX8_readBlocks_201 : decode cX8_readBlocks 201 = .ok (.iadd, 1) := by decide +kernel
theorem dX8_readBlocks_202 : decode cX8_readBlocks 202 = .ok (.istore_n 2, 1) := by decide +kernel
theorem dX8_readBlocks_203 : decode cX8_readBlocks 203 = .ok (.iinc 3 1, 3) := by decide +kernel
theorem dX8_readBlocks_206 : decode cX8_readBlocks 206 = .ok (.goto (-129), 3) := by decide +kernel
theorem dX8_readBlocks_209 : decode cX8_readBlocks 209 = .ok (.return_, 1) := by decide +kernel
theorem dX8_load_0 : decode cX8_load 0 = .ok (.aload_n 0, 1) := by decide +kernel
theorem dX8_load_1 : decode cX8_load 1 = .ok (.iconst 0, 1) := by decide +kernel
theorem dX8_load_2 : decode cX8_load 2 = .ok (.putfield 108, 3) := by decide +kernel
theorem dX8_load_5 : decode cX8_load 5 = .ok (.aload_n 0, 1) := by decide +kernel
theorem dX8_load_6 : decode cX8_load 6 = .ok (.iconst 0, 1) := by decide +kernel
theorem dX8_load_7 : decode cX8_load 7 = .ok (.putfield 176, 3) := by decide +kernel
theorem dX8_load_10 : decode cX8_load 10 = .ok (.aload_n 0, 1) := by decide +kernel
theorem dX8_load_11 : decode cX8_load 11 = .ok (.iconst 0, 1) := by decide +kernel
theorem dX8_load_12 : decode cX8_load 12 = .ok (.putfield 197, 3) := by decide +kernel
theorem dX8_load_15 : decode cX8_load 15 = .ok (.aload_n 0, 1) := by decide +kernel
theorem dX8_load_16 : decode cX8_load 16 = .ok (.iconst 0, 1) := by decide +kernel
theorem dX8_load_17 : decode cX8_load 17 = .ok (.putfield 170, 3) := by decide +kernel
theorem dX8_load_20 : decode cX8_load 20 = .ok (.aload_n 0, 1) := by decide +kernel
theorem dX8_load_21 : decode cX8_load 21 = .ok (.iconst 0, 1) := by decide +kernel
theorem dX8_load_22 : decode cX8_load 22 = .ok (.putfield 224, 3) := by decide +kernel
theorem dX8_load_25 : decode cX8_load 25 = .ok (.aload_n 0, 1) := by decide +kernel
theorem dX8_load_26 : decode cX8_load 26 = .ok (.iconst 0, 1) := by decide +kernel
theorem dX8_load_27 : decode cX8_load 27 = .ok (.putfield 227, 3) := by decide +kernel
theorem dX8_load_30 : decode cX8_load 30 = .ok (.aload_n 0, 1) := by decide +kernel
theorem dX8_load_31 : decode cX8_load 31 = .ok (.iconst 0, 1) := by decide +kernel
theorem dX8_load_32 : decode cX8_load 32 = .ok (.putfield 206, 3) := by decide +kernel
theorem dX8_load_35 : decode cX8_load 35 = .ok (.aload_n 0, 1) := by decide +kernel
theorem dX8_load_36 : decode cX8_load 36 = .ok (.invokevirtual 230, 3) := by decide +kernel
theorem dX8_load_39 : decode cX8_load 39 = .ok (.aload_n 0, 1) := by decide +kernel
theorem dX8_load_40 : decode cX8_load 40 = .ok (.getfield 170, 3) := by decide +kernel
theorem dX8_load_43 : decode cX8_load 43 = .ok (.ifCond .le 32, 3) := by decide +kernel
theorem dX8_load_46 : decode cX8_load 46 = .ok (.aload_n 0, 1) := by decide +kernel
theorem dX8_load_47 : decode cX8_load 47 = .ok (.iconst 1, 1) := by decide +kernel
theorem dX8_load_48 : decode cX8_load 48 = .ok (.putfield 233, 3) := by decide +kernel
theorem dX8_load_51 : decode cX8_load 51 = .ok (.aload_n 0, 1) := by decide +kernel
theorem dX8_load_52 : decode cX8_load 52 = .ok (.aload_n 0, 1) := by decide +kernel
theorem dX8_load_53 : decode cX8_load 53 = .ok (.getfield 170, 3) := by decide +kernel
theorem dX8_load_56 : decode cX8_load 56 = .ok (.putfield 237, 3) := by decide +kernel
theorem dX8_load_59 : decode cX8_load 59 = .ok (.aload_n 0, 1) := by decide +kernel
theorem dX8_load_60 : decode cX8_load 60 = .ok (.aload_n 0, 1) := by decide +kernel
theorem dX8_load_61 : decode cX8_load 61 = .ok (.getfield 173, 3) := by decide +kernel
theorem dX8_load_64 : decode cX8_load 64 = .ok (.putfield 240, 3) := by decide +kernel
theorem dX8_load_67 : decode cX8_load 67 = .ok (.bipush (-10), 2) := by decide +kernel
theorem dX8_load_69 : decode cX8_load 69 = .ok (.aload_n 0, 1) := by decide +kernel
theorem dX8_load_70 : decode cX8_load 70 = .ok (.getfield 170, 3) := by decide +kernel
theorem dX8_load_73 : decode cX8_load 73 = .ok (.isub, 1) := by decide +kernel
theorem dX8_load_74 : decode cX8_load 74 = .ok (.ireturn, 1) := by decide +kernel
theorem dX8_load_75 : decode cX8_load 75 = .ok (.iconst 0, 1) := by decide +kernel
theorem dX8_load_76 : decode cX8_load 76 = .ok (.istore_n 1, 1) := by decide +kernel
theorem dX8_load_77 : decode cX8_load 77 = .ok (.iload_n 1, 1) := by decide +kernel
theorem dX8_load_78 : decode cX8_load 78 = .ok (.aload_n 0, 1) := by decide +kernel
theorem dX8_load_79 : decode cX8_load 79 = .ok (.getfield 221, 3) := by decide +kernel
theorem dX8_load_82 : decode cX8_load 82 = .ok (.if_icmp .ge 46, 3) := by decide +kernel
theorem dX8_load_85 : decode cX8_load 85 = .ok (.aload_n 0, 1) := by decide +kernel
theorem dX8_load_86 : decode cX8_load 86 = .ok (.getfield 7, 3) := by decide +kernel
theorem dX8_load_89 : decode cX8_load 89 = .ok (.iload_n 1, 1) := by decide +kernel
theorem dX8_load_90 : decode cX8_load 90 = .ok (.aload_n 0, 1) := by decide +kernel
theorem dX8_load_91 : decode cX8_load 91 = .ok (.iload_n 1, 1) := by decide +kernel
theorem dX8_load_92 : decode cX8_load 92 = .ok (.invokevirtual 243, 3) := by decide +kernel
theorem dX8_load_95 : decode cX8_load 95 = .ok (.ifCond .eq 20, 3) := by decide +kernel
theorem dX8_load_98 : decode cX8_load 98 = .ok (.iload_n 1, 1) := by decide +kernel
theorem dX8_load_99 : decode cX8_load 99 = .ok (.aload_n 0, 1) := by decide +kernel
theorem dX8_load_100 : decode cX8_load 100 = .ok (.getfield 101, 3) := by decide +kernel
theorem dX8_load_103 : decode cX8_load 103 = .ok (.if_icmp .ge 12, 3) := by decide +kernel
theorem dX8_load_106 : decode cX8_load 106 = .ok (.aload_n 0, 1) := by decide +kernel
theorem dX8_load_107 : decode cX8_load 107 = .ok (.getfield 7, 3) := by decide +kernel
theorem dX8_load_110 : decode cX8_load 110 = .ok (.iload_n 1, 1) := by decide +kernel
theorem dX8_load_111 : decode cX8_load 111 = .ok (.iaload, 1) := by decide +kernel
theorem dX8_load_112 : decode cX8_load 112 = .ok (.goto 9, 3) := by decide +kernel
theorem dX8_load_115 : decode cX8_load 115 = .ok (.aload_n 0, 1) := by decide +kernel
theorem dX8_load_116 : decode cX8_load 116 = .ok (.getfield 58, 3) := by decide +kernel
theorem dX8_load_119 : decode cX8_load 119 = .ok (.iload_n 1, 1) := by decide +kernel
theorem dX8_load_120 : decode cX8_load 120 = .ok (.iaload, 1) := by decide +kernel
theorem dX8_load_121 : decode cX8_load 121 = .ok (.iastore, 1) := by decide +kernel
theorem dX8_load_122 : decode cX8_load 122 = .ok (.iinc 1 1, 3) := by decide +kernel
theorem dX8_load_125 : decode cX8_load 125 = .ok (.goto (-48), 3) := by decide +kernel
theorem dX8_load_128 : decode cX8_load 128 = .ok (.aload_n 0, 1) := by decide +kernel
theorem dX8_load_129 : decode cX8_load 129 = .ok (.aload_n 0, 1) := by decide +kernel
theorem dX8_load_130 : decode cX8_load 130 = .ok (.getfield 221, 3) := by decide +kernel
theorem dX8_load_133 : decode cX8_load 133 = .ok (.putfield 101, 3) := by decide +kernel
theorem dX8_load_136 : decode cX8_load 136 = .ok (.aload_n 0, 1) := by decide +kernel
theorem dX8_load_137 : decode cX8_load 137 = .ok (.aload_n 0, 1) := by decide +kernel
theorem dX8_load_138 : decode cX8_load 138 = .ok (.getfield 224, 3) := by decide +kernel
theorem dX8_load_141 : decode cX8_load 141 = .ok (.putfield 122, 3) := by decide +kernel
theorem dX8_load_144 : decode cX8_load 144 = .ok (.iconst 0, 1) := by decide +kernel
theorem dX8_load_145 : decode cX8_load 145 = .ok (.istore_n 1, 1) := by decide +kernel
theorem dX8_load_146 : decode cX8_load 146 = .ok (.iload_n 1, 1) := by decide +kernel
theorem dX8_load_147 : decode cX8_load 147 = .ok (.aload_n 0, 1) := by decide +kernel
theorem dX8_load_148 : decode cX8_load 148 = .ok (.getfield 122, 3) := by decide +kernel
theorem dX8_load_151 : decode cX8_load 151 = .ok (.if_icmp .ge 21, 3) := by decide +kernel
theorem dX8_load_154 : decode cX8_load 154 = .ok (.aload_n 0, 1) := by decide +kernel
theorem dX8_load_155 : decode cX8_load 155 = .ok (.getfield 13, 3) := by decide +kernel
theorem dX8_load_158 : decode cX8_load 158 = .ok (.iload_n 1, 1) := by decide +kernel
theorem dX8_load_159 : decode cX8_load 159 = .ok (.aload_n 0, 1) := by decide +kernel
theorem dX8_load_160 : decode cX8_load 160 = .ok (.getfield 61, 3) := by decide +kernel
theorem dX8_load_163 : decode cX8_load 163 = .ok (.iload_n 1, 1) := by decide +kernel
theorem dX8_load_164 : decode cX8_load 164 = .ok (.iaload, 1) := by decide +kernel
theorem dX8_load_165 : decode cX8_load 165 = .ok (.iastore, 1) := by decide +kernel
theorem dX8_load_166 : decode cX8_load 166 = .ok (.iinc 1 1, 3) := by decide +kernel
theorem dX8_load_169 : decode cX8_load 169 = .ok (.goto (-23), 3) := by decide +kernel
theorem dX8_load_172 : decode cX8_load 172 = .ok (.aload_n 0, 1) := by decide +kernel
theorem dX8_load_173 : decode cX8_load 173 = .ok (.aload_n 0, 1) := by decide +kernel
theorem dX8_load_174 : decode cX8_load 174 = .ok (.getfield 227, 3) := by decide +kernel
theorem dX8_load_177 : decode cX8_load 177 = .ok (.putfield 119, 3) := by decide +kernel
theorem dX8_load_180 : decode cX8_load 180 = .ok (.iconst 0, 1) := by decide +kernel
theorem dX8_load_181 : decode cX8_load 181 = .ok (.istore_n 1, 1) := by decide +kernel
theorem dX8_load_182 : decode cX8_load 182 = .ok (.iload_n 1, 1) := by decide +kernel
theorem dX8_load_183 : decode cX8_load 183 = .ok (.aload_n 0, 1) := by decide +kernel
theorem dX8_load_184 : decode cX8_load 184 = .ok (.getfield 119, 3) := by decide +kernel
theorem dX8_load_187 : decode cX8_load 187 = .ok (.if_icmp .ge 33, 3) := by decide +kernel
theorem dX8_load_190 : decode cX8_load 190 = .ok (.aload_n 0, 1) := by decide +kernel
theorem dX8_load_191 : decode cX8_load 191 = .ok (.getfield 16, 3) := by decide +kernel
theorem dX8_load_194 : decode cX8_load 194 = .ok (.iload_n 1, 1) := by decide +kernel
theorem dX8_load_195 : decode cX8_load 195 = .ok (.aload_n 0, 1) := by decide +kernel
theorem dX8_load_196 : decode cX8_load 196 = .ok (.getfield 64, 3) := by decide +kernel
theorem dX8_load_199 : decode cX8_load 199 = .ok (.iload_n 1, 1) := by decide +kernel
theorem dX8_load_200 : decode cX8_load 200 = .ok (.iaload, 1) := by decide +kernel
theorem dX8_load_201 : decode cX8_load 201 = .ok (.iastore, 1) := by decide +kernel
theorem dX8_load_202 : decode cX8_load 202 = .ok (.aload_n 0, 1) := by decide +kernel
theorem dX8_load_203 : decode cX8_load 203 = .ok (.getfield 19, 3) := by decide +kernel
theorem dX8_load_206 : decode cX8_load 206 = .ok (.iload_n 1, 1) := by decide +kernel
theorem dX8_load_207 : decode cX8_load 207 = .ok (.aload_n 0, 1) := by decide +kernel
theorem dX8_load_208 : decode cX8_load 208 = .ok (.getfield 67, 3) := by decide +kernel
theorem dX8_load_211 : decode cX8_load 211 = .ok (.iload_n 1, 1) := by decide +kernel
theorem dX8_load_212 : decode cX8_load 212 = .ok (.iaload, 1) := by decide +kernel
theorem dX8_load_213 : decode cX8_load 213 = .ok (.iastore, 1) := by decide +kernel
theorem dX8_load_214 : decode cX8_load 214 = .ok (.iinc 1 1, 3) := by decide +kernel
theorem dX8_load_217 : decode cX8_load 217 = .ok (.goto (-35), 3) := by decide +kernel
theorem dX8_load_220 : decode cX8_load 220 = .ok (.aload_n 0, 1) := by decide +kernel
theorem dX8_load_221 : decode cX8_load 221 = .ok (.aload_n 0, 1) := by decide +kernel
theorem dX8_load_222 : decode cX8_load 222 = .ok (.getfield 206, 3) := by decide +kernel
theorem dX8_load_225 : decode cX8_load 225 = .ok (.putfield 164, 3) := by decide +kernel
theorem dX8_load_228 : decode cX8_load 228 = .ok (.iconst 0, 1) := by decide +kernel
theorem dX8_load_229 : decode cX8_load 229 = .ok (.istore_n 1, 1) := by decide +kernel
theorem dX8_load_230 : decode cX8_load 230 = .ok (.iload_n 1, 1) := by decide +kernel
theorem dX8_load_231 : decode cX8_load 231 = .ok (.aload_n 0, 1) := by decide +kernel
theorem dX8_load_232 : decode cX8_load 232 = .ok (.getfield 164, 3) := by decide +kernel
theorem dX8_load_235 : decode cX8_load 235 = .ok (.if_icmp .ge 73, 3) := by decide +kernel
theorem dX8_load_238 : decode cX8_load 238 = .ok (.aload_n 0, 1) := by decide +kernel
theorem dX8_load_239 : decode cX8_load 239 = .ok (.getfield 25, 3) := by decide +kernel
theorem dX8_load_242 : decode cX8_load 242 = .ok (.iload_n 1, 1) := by decide +kernel
theorem dX8_load_243 : decode cX8_load 243 = .ok (.aload_n 0, 1) := by decide +kernel
theorem dX8_load_244 : decode cX8_load 244 = .ok (.getfield 70, 3) := by decide +kernel
theorem dX8_load_247 : decode cX8_load 247 = .ok (.iload_n 1, 1) := by decide +kernel
theorem dX8_load_248 : decode cX8_load 248 = .ok (.iaload, 1) := by decide +kernel
theorem dX8_load_249 : decode cX8_load 249 = .ok (.iastore, 1) := by decide +kernel
theorem dX8_load_250 : decode cX8_load 250 = .ok (.aload_n 0, 1) := by decide +kernel
theorem dX8_load_251 : decode cX8_load 251 = .ok (.getfield 28, 3) := by decide +kernel
theorem dX8_load_254 : decode cX8_load 254 = .ok (.iload_n 1, 1) := by decide +kernel
theorem dX8_load_255 : decode cX8_load 255 = .ok (.aload_n 0, 1) := by decide +kernel
theorem dX8_load_256 : decode cX8_load 256 = .ok (.getfield 73, 3) := by decide +kernel
theorem dX8_load_259 : decode cX8_load 259 = .ok (.iload_n 1, 1) := by decide +kernel
theorem dX8_load_260 : decode cX8_load 260 = .ok (.iaload, 1) := by decide +kernel
theorem dX8_load_261 : decode cX8_load 261 = .ok (.iastore, 1) := by decide +kernel
theorem dX8_load_262 : decode cX8_load 262 = .ok (.iconst 0, 1) := by decide +kernel
theorem dX8_load_263 : decode cX8_load 263 = .ok (.istore_n 2, 1) := by decide +kernel
theorem dX8_load_264 : decode cX8_load 264 = .ok (.iload_n 2, 1) := by decide +kernel
theorem dX8_load_265 : decode cX8_load 265 = .ok (.aload_n 0, 1) := by decide +kernel
theorem dX8_load_266 : decode cX8_load 266 = .ok (.getfield 28, 3) := by decide +kernel
theorem dX8_load_269 : decode cX8_load 269 = .ok (.iload_n 1, 1) := by decide +kernel
theorem dX8_load_270 : decode cX8_load 270 = .ok (.iaload, 1) := by decide +kernel
theorem dX8_load_271 : decode cX8_load 271 = .ok (.if_icmp .ge 31, 3) := by decide +kernel
theorem dX8_load_274 : decode cX8_load 274 = .ok (.aload_n 0, 1) := by decide +kernel
theorem dX8_load_275 : decode cX8_load 275 = .ok (.getfield 31, 3) := by decide +kernel
theorem dX8_load_278 : decode cX8_load 278 = .ok (.bipush 60, 2) := by decide +kernel
theorem dX8_load_280 : decode cX8_load 280 = .ok (.iload_n 1, 1) := by decide +kernel
theorem dX8_load_281 : decode cX8_load 281 = .ok (.imul, 1) := by decide +kernel
theorem dX8_load_282 : decode cX8_load 282 = .ok (.iload_n 2, 1) := by decide +kernel
theorem dX8_load_283 : decode cX8_load 283 = .ok (.iadd, 1) := by decide +kernel
theorem dX8_load_284 : decode cX8_load 284 = .ok (.aload_n 0, 1) := by decide +kernel
theorem dX8_load_285 : decode cX8_load 285 = .ok (.getfield 76, 3) := by decide +kernel
theorem dX8_load_288 : decode cX8_load 288 = .ok (.bipush 60, 2) := by decide +kernel
theorem dX8_load_290 : decode cX8_load 290 = .ok (.iload_n 1, 1) := by decide +kernel
theorem dX8_load_291 : decode cX8_load 291 = .ok (.imul, 1) := by decide +kernel
theorem dX8_load_292 : decode cX8_load 292 = .ok (.iload_n 2, 1) := by decide +kernel
theorem dX8_load_293 : decode cX8_load 293 = .ok (.iadd, 1) := by decide +kernel
theorem dX8_load_294 : decode cX8_load 294 = .ok (.iaload, 1) := by decide +kernel
theorem dX8_load_295 : decode cX8_load 295 = .ok (.iastore, 1) := by decide +kernel
theorem dX8_load_296 : decode cX8_load 296 = .ok (.iinc 2 1, 3) := by decide +kernel
theorem dX8_load_299 : decode cX8_load 299 = .ok (.goto (-35), 3) := by decide +kernel
theorem dX8_load_302 : decode cX8_load 302 = .ok (.iinc 1 1, 3) := by decide +kernel
theorem dX8_load_305 : decode cX8_load 305 = .ok (.goto (-75), 3) := by decide +kernel
theorem dX8_load_308 : decode cX8_load 308 = .ok (.iconst 1, 1) := by decide +kernel
theorem dX8_load_309 : decode cX8_load 309 = .ok (.ireturn, 1) := by decide +kernel
theorem dX8_fault_0 : decode cX8_fault 0 = .ok (.aload_n 0, 1) := by decide +kernel
theorem dX8_fault_1 : decode cX8_fault 1 = .ok (.iconst 0, 1) := by decide +kernel
theorem dX8_fault_2 : decode cX8_fault 2 = .ok (.putfield 108, 3) := by decide +kernel
theorem dX8_fault_5 : decode cX8_fault 5 = .ok (.iload_n 1, 1) := by decide +kernel
theorem dX8_fault_6 : decode cX8_fault 6 = .ok (.i2l, 1) := by decide +kernel
theorem dX8_fault_7 : decode cX8_fault 7 = .ok (.lconst 0, 1) := by decide +kernel
theorem dX8_fault_8 : decode cX8_fault 8 = .ok (.lconst 1, 1) := by decide +kernel
theorem dX8_fault_9 : decode cX8_fault 9 = .ok (.invokestatic 87, 3) := by decide +kernel
theorem dX8_fault_12 : decode cX8_fault 12 = .ok (.ifCond .ne 6, 3) := by decide +kernel
theorem dX8_fault_15 : decode cX8_fault 15 = .ok (.bipush (-2), 2) := by decide +kernel
theorem dX8_fault_17 : decode cX8_fault 17 = .ok (.ireturn, 1) := by decide +kernel
theorem dX8_fault_18 : decode cX8_fault 18 = .ok (.aload_n 0, 1) := by decide +kernel
theorem dX8_fault_19 : decode cX8_fault 19 = .ok (.getfield 233, 3) := by decide +kernel
theorem dX8_fault_22 : decode cX8_fault 22 = .ok (.ifCond .ne 8, 3) := by decide +kernel
theorem dX8_fault_25 : decode cX8_fault 25 = .ok (.bipush (-3), 2) := by decide +kernel
theorem dX8_fault_27 : decode cX8_fault 27 = .ok (.goto 18, 3) := by decide +kernel
theorem dX8_fault_30 : decode cX8_fault 30 = .ok (.iload_n 1, 1) := by decide +kernel
theorem dX8_fault_31 : decode cX8_fault 31 = .ok (.ifCond .ne 10, 3) := by decide +kernel
theorem dX8_fault_34 : decode cX8_fault 34 = .ok (.aload_n 0, 1) := by decide +kernel
theorem dX8_fault_35 : decode cX8_fault 35 = .ok (.getfield 237, 3) := by decide +kernel
theorem dX8_fault_38 : decode cX8_fault 38 = .ok (.goto 7, 3) := by decide +kernel
theorem dX8_fault_41 : decode cX8_fault 41 = .ok (.aload_n 0, 1) := by decide +kernel
theorem dX8_fault_42 : decode cX8_fault 42 = .ok (.getfield 240, 3) := by decide +kernel
theorem dX8_fault_45 : decode cX8_fault 45 = .ok (.ireturn, 1) := by decide +kernel
theorem dX8_mark_0 : decode cX8_mark 0 = .ok (.aload_n 0, 1) := by decide +kernel
theorem dX8_mark_1 : decode cX8_mark 1 = .ok (.iconst 0, 1) := by decide +kernel
theorem dX8_mark_2 : decode cX8_mark 2 = .ok (.putfield 108, 3) := by decide +kernel
theorem dX8_mark_5 : decode cX8_mark 5 = .ok (.aload_n 0, 1) := by decide +kernel
theorem dX8_mark_6 : decode cX8_mark 6 = .ok (.getfield 246, 3) := by decide +kernel
theorem dX8_mark_9 : decode cX8_mark 9 = .ok (.iconst 3, 1) := by decide +kernel
theorem dX8_mark_10 : decode cX8_mark 10 = .ok (.if_icmp .ne 29, 3) := by decide +kernel
theorem dX8_mark_13 : decode cX8_mark 13 = .ok (.iconst 0, 1) := by decide +kernel
theorem dX8_mark_14 : decode cX8_mark 14 = .ok (.istore_n 1, 1) := by decide +kernel
theorem dX8_mark_15 : decode cX8_mark 15 = .ok (.iload_n 1, 1) := by decide +kernel
theorem dX8_mark_16 : decode cX8_mark 16 = .ok (.iconst 2, 1) := by decide +kernel
theorem dX8_mark_17 : decode cX8_mark 17 = .ok (.if_icmp .ge 17, 3) := by decide +kernel
theorem dX8_mark_20 : decode cX8_mark 20 = .ok (.aload_n 0, 1) := by decide +kernel
theorem dX8_mark_21 : decode cX8_mark 21 = .ok (.iload_n 1, 1) := by decide +kernel
theorem dX8_mark_22 : decode cX8_mark 22 = .ok (.iconst 1, 1) := by decide +kernel
theorem dX8_mark_23 : decode cX8_mark 23 = .ok (.iadd, 1) := by decide +kernel
theorem dX8_mark_24 : decode cX8_mark 24 = .ok (.iload_n 1, 1) := by decide +kernel
theorem dX8_mark_25 : decode cX8_mark 25 = .ok (.invokevirtual 249, 3) := by decide +kernel
theorem dX8_mark_28 : decode cX8_mark 28 = .ok (.iinc 1 1, 3) := by decide +kernel
theorem dX8_mark_31 : decode cX8_mark 31 = .ok (.goto (-16), 3) := by decide +kernel
theorem dX8_mark_34 : decode cX8_mark 34 = .ok (.aload_n 0, 1) := by decide +kernel
theorem dX8_mark_35 : decode cX8_mark 35 = .ok (.iconst 2, 1) := by decide +kernel
theorem dX8_mark_36 : decode cX8_mark 36 = .ok (.putfield 246, 3) := by decide +kernel
theorem dX8_mark_39 : decode cX8_mark 39 = .ok (.aload_n 0, 1) := by decide +kernel
theorem dX8_mark_40 : decode cX8_mark 40 = .ok (.getfield 246, 3) := by decide +kernel
theorem dX8_mark_43 : decode cX8_mark 43 = .ok (.istore_n 1, 1) := by decide +kernel
theorem dX8_mark_44 : decode cX8_mark 44 = .ok (.aload_n 0, 1) := by decide +kernel
theorem dX8_mark_45 : decode cX8_mark 45 = .ok (.getfield 34, 3) := by decide +kernel
theorem dX8_mark_48 : decode cX8_mark 48 = .ok (.iload_n 1, 1) := by decide +kernel
theorem dX8_mark_49 : decode cX8_mark 49 = .ok (.aload_n 0, 1) := by decide +kernel
theorem dX8_mark_50 : decode cX8_mark 50 = .ok (.getfield 101, 3) := by decide +kernel
theorem dX8_mark_53 : decode cX8_mark 53 = .ok (.iastore, 1) := by decide +kernel
theorem dX8_mark_54 : decode cX8_mark 54 = .ok (.iconst 0, 1) := by decide +kernel
theorem dX8_mark_55 : decode cX8_mark 55 = .ok (.istore_n 2, 1) := by decide +kernel
theorem dX8_mark_56 : decode cX8_mark 56 = .ok (.iload_n 2, 1) := by decide +kernel
theorem dX8_mark_57 : decode cX8_mark 57 = .ok (.sipush 512, 3) := by decide +kernel
theorem dX8_mark_60 : decode cX8_mark 60 = .ok (.if_icmp .ge 39, 3) := by decide +kernel
theorem dX8_mark_63 : decode cX8_mark 63 = .ok (.aload_n 0, 1) := by decide +kernel
theorem dX8_mark_64 : decode cX8_mark 64 = .ok (.getfield 37, 3) := by decide +kernel
theorem dX8_mark_67 : decode cX8_mark 67 = .ok (.sipush 512, 3) := by decide +kernel
theorem dX8_mark_70 : decode cX8_mark 70 = .ok (.iload_n 1, 1) := by decide +kernel
theorem dX8_mark_71 : decode cX8_mark 71 = .ok (.imul, 1) := by decide +kernel
theorem dX8_mark_72 : decode cX8_mark 72 = .ok (.iload_n 2, 1) := by decide +kernel
theorem dX8_mark_73 : decode cX8_mark 73 = .ok (.iadd, 1) := by decide +kernel
theorem dX8_mark_74 : decode cX8_mark 74 = .ok (.iload_n 2, 1) := by decide +kernel
theorem dX8_mark_75 : decode cX8_mark 75 = .ok (.aload_n 0, 1) := by decide +kernel
theorem dX8_mark_76 : decode cX8_mark 76 = .ok (.getfield 101, 3) := by decide +kernel
theorem dX8_mark_79 : decode cX8_mark 79 = .ok (.if_icmp .ge 12, 3) := by decide +kernel
theorem dX8_mark_82 : decode cX8_mark 82 = .ok (.aload_n 0, 1) := by decide +kernel
theorem dX8_mark_83 : decode cX8_mark 83 = .ok (.getfield 7, 3) := by decide +kernel
theorem dX8_mark_86 : decode cX8_mark 86 = .ok (.iload_n 2, 1) := by decide +kernel
theorem dX8_mark_87 : decode cX8_mark 87 = .ok (.iaload, 1) := by decide +kernel
theorem dX8_mark_88 : decode cX8_mark 88 = .ok (.goto 4, 3) := by decide +kernel
theorem dX8_mark_91 : decode cX8_mark 91 = .ok (.iconst 0, 1) := by decide +kernel
theorem dX8_mark_92 : decode cX8_mark 92 = .ok (.iastore, 1) := by decide +kernel
theorem dX8_mark_93 : decode cX8_mark 93 = .ok (.iinc 2 1, 3) := by decide +kernel
theorem dX8_mark_96 : decode cX8_mark 96 = .ok (.goto (-40), 3) := by decide +kernel
theorem dX8_mark_99 : decode cX8_mark 99 = .ok (.aload_n 0, 1) := by decide +kernel
theorem dX8_mark_100 : decode cX8_mark 100 = .ok (.getfield 40, 3) := by decide +kernel
theorem dX8_mark_103 : decode cX8_mark 103 = .ok (.iload_n 1, 1) := by decide +kernel
theorem dX8_mark_104 : decode cX8_mark 104 = .ok (.aload_n 0, 1) := by decide +kernel
theorem dX8_mark_105 : decode cX8_mark 105 = .ok (.getfield 122, 3) := by decide +kernel
theorem dX8_mark_108 : decode cX8_mark 108 = .ok (.iastore, 1) := by decide +kernel
theorem dX8_mark_109 : decode cX8_mark 109 = .ok (.iconst 0, 1) := by decide +kernel
theorem dX8_mark_110 : decode cX8_mark 110 = .ok (.istore_n 2, 1) := by decide +kernel
theorem dX8_mark_111 : decode cX8_mark 111 = .ok (.iload_n 2, 1) := by decide +kernel
theorem dX8_mark_112 : decode cX8_mark 112 = .ok (.bipush 40, 2) := by decide +kernel
theorem dX8_mark_114 : decode cX8_mark 114 = .ok (.if_icmp .ge 26, 3) := by decide +kernel
theorem dX8_mark_117 : decode cX8_mark 117 = .ok (.aload_n 0, 1) := by decide +kernel
theorem dX8_mark_118 : decode cX8_mark 118 = .ok (.getfield 43, 3) := by decide +kernel
theorem dX8_mark_121 : decode cX8_mark 121 = .ok (.bipush 40, 2) := by decide +kernel
theorem dX8_mark_123 : decode cX8_mark 123 = .ok (.iload_n 1, 1) := by decide +kernel
theorem dX8_mark_124 : decode cX8_mark 124 = .ok (.imul, 1) := by decide +kernel
theorem dX8_mark_125 : decode cX8_mark 125 = .ok (.iload_n 2, 1) := by decide +kernel
theorem dX8_mark_126 : decode cX8_mark 126 = .ok (.iadd, 1) := by decide +kernel
theorem dX8_mark_127 : decode cX8_mark 127 = .ok (.aload_n 0, 1) := by decide +kernel
theorem dX8_mark_128 : decode cX8_mark 128 = .ok (.getfield 13, 3) := by decide +kernel
theorem dX8_mark_131 : decode cX8_mark 131 = .ok (.iload_n 2, 1) := by decide +kernel
theorem dX8_mark_132 : decode cX8_mark 132 = .ok (.iaload, 1) := by decide +kernel
theorem dX8_mark_133 : decode cX8_mark 133 = .ok (.iastore, 1) := by decide +kernel
theorem dX8_mark_134 : decode cX8_mark 134 = .ok (.iinc 2 1, 3) := by decide +kernel
theorem dX8_mark_137 : decode cX8_mark 137 = .ok (.goto (-26), 3) := by decide +kernel
theorem dX8_mark_140 : decode cX8_mark 140 = .ok (.aload_n 0, 1) := by decide +kernel
theorem dX8_mark_141 : decode cX8_mark 141 = .ok (.getfield 46, 3) := by decide +kernel
theorem dX8_mark_144 : decode cX8_mark 144 = .ok (.iload_n 1, 1) := by decide +kernel
theorem dX8_mark_145 : decode cX8_mark 145 = .ok (.aload_n 0, 1) := by decide +kernel
theorem dX8_mark_146 : decode cX8_mark 146 = .ok (.getfield 119, 3) := by decide +kernel
theorem dX8_mark_149 : decode cX8_mark 149 = .ok (.iastore, 1) := by decide +kernel
theorem dX8_mark_150 : decode cX8_mark 150 = .ok (.iconst 0, 1) := by decide +kernel
theorem dX8_mark_151 : decode cX8_mark 151 = .ok (.istore_n 2, 1) := by decide +kernel
theorem dX8_mark_152 : decode cX8_mark 152 = .ok (.iload_n 2, 1) := by decide +kernel
theorem dX8_mark_153 : decode cX8_mark 153 = .ok (.bipush 8, 2) := by decide +kernel
theorem dX8_mark_155 : decode cX8_mark 155 = .ok (.if_icmp .ge 43, 3) := by decide +kernel
theorem dX8_mark_158 : decode cX8_mark 158 = .ok (.aload_n 0, 1) := by decide +kernel
theorem dX8_mark_159 : decode cX8_mark 159 = .ok (.getfield 49, 3) := by decide +kernel
theorem dX8_mark_162 : decode cX8_mark 162 = .ok (.bipush 8, 2) := by decide +kernel
theorem dX8_mark_164 : decode cX8_mark 164 = .ok (.iload_n 1, 1) := by decide +kernel
theorem dX8_mark_165 : decode cX8_mark 165 = .ok (.imul, 1) := by decide +kernel
theorem dX8_mark_166 : decode cX8_mark 166 = .ok (.iload_n 2, 1) := by decide +kernel
theorem dX8_mark_167 : decode cX8_mark 167 = .ok (.iadd, 1) := by decide +kernel
theorem dX8_mark_168 : decode cX8_mark 168 = .ok (.aload_n 0, 1) := by decide +kernel
theorem dX8_mark_169 : decode cX8_mark 169 = .ok (.getfield 16, 3) := by decide +kernel
theorem dX8_mark_172 : decode cX8_mark 172 = .ok (.iload_n 2, 1) := by decide +kernel
theorem dX8_mark_173 : decode cX8_mark 173 = .ok (.iaload, 1) := by decide +kernel
theorem dX8_mark_174 : decode cX8_mark 174 = .ok (.iastore, 1) := by decide +kernel
theorem dX8_mark_175 : decode cX8_mark 175 = .ok (.aload_n 0, 1) := by decide +kernel
theorem dX8_mark_176 : decode cX8_mark 176 = .ok (.getfield 52, 3) := by decide +kernel
theorem dX8_mark_179 : decode cX8_mark 179 = .ok (.bipush 8, 2) := by decide +kernel
theorem dX8_mark_181 : decode cX8_mark 181 = .ok (.iload_n 1, 1) := by decide +kernel
theorem dX8_mark_182 : decode cX8_mark 182 = .ok (.imul, 1) := by decide +kernel
theorem dX8_mark_183 : decode cX8_mark 183 = .ok (.iload_n 2, 1) := by decide +kernel
theorem dX8_mark_184 : decode cX8_mark 184 = .ok (.iadd, 1) := by decide +kernel
theorem dX8_mark_185 : decode cX8_mark 185 = .ok (.aload_n 0, 1) := by decide +kernel
theorem dX8_mark_186 : decode cX8_mark 186 = .ok (.getfield 19, 3) := by decide +kernel
theorem dX8_mark_189 : decode cX8_mark 189 = .ok (.iload_n 2, 1) := by decide +kernel
theorem dX8_mark_190 : decode cX8_mark 190 = .ok (.iaload, 1) := by decide +kernel
theorem dX8_mark_191 : decode cX8_mark 191 = .ok (.iastore, 1) := by decide +kernel
theorem dX8_mark_192 : decode cX8_mark 192 = .ok (.iinc 2 1, 3) := by decide +kernel
theorem dX8_mark_195 : decode cX8_mark 195 = .ok (.goto (-43), 3) := by decide +kernel
theorem dX8_mark_198 : decode cX8_mark 198 = .ok (.aload_n 0, 1) := by decide +kernel
theorem dX8_mark_199 : decode cX8_mark 199 = .ok (.dup, 1) := by decide +kernel
theorem dX8_mark_200 : decode cX8_mark 200 = .ok (.getfield 246, 3) := by decide +kernel
theorem dX8_mark_203 : decode cX8_mark 203 = .ok (.iconst 1, 1) := by decide +kernel
theorem dX8_mark_204 : decode cX8_mark 204 = .ok (.iadd, 1) := by decide +kernel
theorem dX8_mark_205 : decode cX8_mark 205 = .ok (.putfield 246, 3) := by decide +kernel
theorem dX8_mark_208 : decode cX8_mark 208 = .ok (.aload_n 0, 1) := by decide +kernel
theorem dX8_mark_209 : decode cX8_mark 209 = .ok (.getfield 246, 3) := by decide +kernel
theorem dX8_mark_212 : decode cX8_mark 212 = .ok (.ireturn, 1) := by decide +kernel
theorem dX8_move_0 : decode cX8_move 0 = .ok (.aload_n 0, 1) := by decide +kernel
theorem dX8_move_1 : decode cX8_move 1 = .ok (.getfield 34, 3) := by decide +kernel
theorem dX8_move_4 : decode cX8_move 4 = .ok (.iload_n 2, 1) := by decide +kernel
theorem dX8_move_5 : decode cX8_move 5 = .ok (.aload_n 0, 1) := by decide +kernel
theorem dX8_move_6 : decode cX8_move 6 = .ok (.getfield 34, 3) := by decide +kernel
theorem dX8_move_9 : decode cX8_move 9 = .ok (.iload_n 1, 1) := by decide +kernel
theorem dX8_move_10 : decode cX8_move 10 = .ok (.iaload, 1) := by decide +kernel
theorem dX8_move_11 : decode cX8_move 11 = .ok (.iastore, 1) := by decide +kernel
theorem dX8_move_12 : decode cX8_move 12 = .ok (.aload_n 0, 1) := by decide +kernel
theorem dX8_move_13 : decode cX8_move 13 = .ok (.getfield 40, 3) := by decide +kernel
theorem dX8_move_16 : decode cX8_move 16 = .ok (.iload_n 2, 1) := by decide +kernel
theorem dX8_move_17 : decode cX8_move 17 = .ok (.aload_n 0, 1) := by decide +kernel
theorem dX8_move_18 : decode cX8_move 18 = .ok (.getfield 40, 3) := by decide +kernel
theorem dX8_move_21 : decode cX8_move 21 = .ok (.iload_n 1, 1) := by decide +kernel
theorem dX8_move_22 : decode cX8_move 22 = .ok (.iaload, 1) := by decide +kernel
theorem dX8_move_23 : decode cX8_move 23 = .ok (.iastore, 1) := by decide +kernel
theorem dX8_move_24 : decode cX8_move 24 = .ok (.aload_n 0, 1) := by decide +kernel
theorem dX8_move_25 : decode cX8_move 25 = .ok (.getfield 46, 3) := by decide +kernel
theorem dX8_move_28 : decode cX8_move 28 = .ok (.iload_n 2, 1) := by decide +kernel
theorem dX8_move_29 : decode cX8_move 29 = .ok (.aload_n 0, 1) := by decide +kernel
theorem dX8_move_30 : decode cX8_move 30 = .ok (.getfield 46, 3) := by decide +kernel
theorem dX8_move_33 : decode cX8_move 33 = .ok (.iload_n 1, 1) := by decide +kernel
theorem dX8_move_34 : decode cX8_move 34 = .ok (.iaload, 1) := by decide +kernel
theorem dX8_move_35 : decode cX8_move 35 = .ok (.iastore, 1) := by decide +kernel
theorem dX8_move_36 : decode cX8_move 36 = .ok (.iconst 0, 1) := by decide +kernel
theorem dX8_move_37 : decode cX8_move 37 = .ok (.istore_n 3, 1) := by decide +kernel
theorem dX8_move_38 : decode cX8_move 38 = .ok (.iload_n 3, 1) := by decide +kernel
theorem dX8_move_39 : decode cX8_move 39 = .ok (.sipush 512, 3) := by decide +kernel
theorem dX8_move_42 : decode cX8_move 42 = .ok (.if_icmp .ge 33, 3) := by decide +kernel
theorem dX8_move_45 : decode cX8_move 45 = .ok (.aload_n 0, 1) := by decide +kernel
theorem dX8_move_46 : decode cX8_move 46 = .ok (.getfield 37, 3) := by decide +kernel
theorem dX8_move_49 : decode cX8_move 49 = .ok (.sipush 512, 3) := by decide +kernel
theorem dX8_move_52 : decode cX8_move 52 = .ok (.iload_n 2, 1) := by decide +kernel
theorem dX8_move_53 : decode cX8_move 53 = .ok (.imul, 1) := by decide +kernel
theorem dX8_move_54 : decode cX8_move 54 = .ok (.iload_n 3, 1) := by decide +kernel
theorem dX8_move_55 : decode cX8_move 55 = .ok (.iadd, 1) := by decide +kernel
theorem dX8_move_56 : decode cX8_move 56 = .ok (.aload_n 0, 1) := by decide +kernel
theorem dX8_move_57 : decode cX8_move 57 = .ok (.getfield 37, 3) := by decide +kernel
theorem dX8_move_60 : decode cX8_move 60 = .ok (.sipush 512, 3) := by decide +kernel
theorem dX8_move_63 : decode cX8_move 63 = .ok (.iload_n 1, 1) := by decide +kernel
theorem dX8_move_64 : decode cX8_move 64 = .ok (.imul, 1) := by decide +kernel
theorem dX8_move_65 : decode cX8_move 65 = .ok (.iload_n 3, 1) := by decide +kernel
theorem dX8_move_66 : decode cX8_move 66 = .ok (.iadd, 1) := by decide +kernel
theorem dX8_move_67 : decode cX8_move 67 = .ok (.iaload, 1) := by decide +kernel
theorem dX8_move_68 : decode cX8_move 68 = .ok (.iastore, 1) := by decide +kernel
theorem dX8_move_69 : decode cX8_move 69 = .ok (.iinc 3 1, 3) := by decide +kernel
theorem dX8_move_72 : decode cX8_move 72 = .ok (.goto (-34), 3) := by decide +kernel
theorem dX8_move_75 : decode cX8_move 75 = .ok (.iconst 0, 1) := by decide +kernel
theorem dX8_move_76 : decode cX8_move 76 = .ok (.istore_n 3, 1) := by decide +kernel
theorem dX8_move_77 : decode cX8_move 77 = .ok (.iload_n 3, 1) := by decide +kernel
theorem dX8_move_78 : decode cX8_move 78 = .ok (.bipush 40, 2) := by decide +kernel
theorem dX8_move_80 : decode cX8_move 80 = .ok (.if_icmp .ge 31, 3) := by decide +kernel
theorem dX8_move_83 : decode cX8_move 83 = .ok (.aload_n 0, 1) := by decide +kernel
theorem dX8_move_84 : decode cX8_move 84 = .ok (.getfield 43, 3) := by decide +kernel
theorem dX8_move_87 : decode cX8_move 87 = .ok (.bipush 40, 2) := by decide +kernel
theorem dX8_move_89 : decode cX8_move 89 = .ok (.iload_n 2, 1) := by decide +kernel
theorem dX8_move_90 : decode cX8_move 90 = .ok (.imul, 1) := by decide +kernel
theorem dX8_move_91 : decode cX8_move 91 = .ok (.iload_n 3, 1) := by decide +kernel
theorem dX8_move_92 : decode cX8_move 92 = .ok (.iadd, 1) := by decide +kernel
theorem dX8_move_93 : decode cX8_move 93 = .ok (.aload_n 0, 1) := by decide +kernel
theorem dX8_move_94 : decode cX8_move 94 = .ok (.getfield 43, 3) := by decide +kernel
theorem dX8_move_97 : decode cX8_move 97 = .ok (.bipush 40, 2) := by decide +kernel
theorem dX8_move_99 : decode cX8_move 99 = .ok (.iload_n 1, 1) := by decide +kernel
theorem dX8_move_100 : decode cX8_move 100 = .ok (.imul, 1) := by decide +kernel
theorem dX8_move_101 : decode cX8_move 101 = .ok (.iload_n 3, 1) := by decide +kernel
theorem dX8_move_102 : decode cX8_move 102 = .ok (.iadd, 1) := by decide +kernel
theorem dX8_move_103 : decode cX8_move 103 = .ok (.iaload, 1) := by decide +kernel
theorem dX8_move_104 : decode cX8_move 104 = .ok (.iastore, 1) := by decide +kernel
theorem dX8_move_105 : decode cX8_move 105 = .ok (.iinc 3 1, 3) := by decide +kernel
theorem dX8_move_108 : decode cX8_move 108 = .ok (.goto (-31), 3) := by decide +kernel
theorem dX8_move_111 : decode cX8_move 111 = .ok (.iconst 0, 1) := by decide +kernel
theorem dX8_move_112 : decode cX8_move 112 = .ok (.istore_n 3, 1) := by decide +kernel
theorem dX8_move_113 : decode cX8_move 113 = .ok (.iload_n 3, 1) := by decide +kernel
theorem dX8_move_114 : decode cX8_move 114 = .ok (.bipush 8, 2) := by decide +kernel
theorem dX8_move_116 : decode cX8_move 116 = .ok (.if_icmp .ge 53, 3) := by decide +kernel
theorem dX8_move_119 : decode cX8_move 119 = .ok (.aload_n 0, 1) := by decide +kernel
theorem dX8_move_120 : decode cX8_move 120 = .ok (.getfield 49, 3) := by decide +kernel
theorem dX8_move_123 : decode cX8_move 123 = .ok (.bipush 8, 2) := by decide +kernel
theorem dX8_move_125 : decode cX8_move 125 = .ok (.iload_n 2, 1) := by decide +kernel
theorem dX8_move_126 : decode cX8_move 126 = .ok (.imul, 1) := by decide +kernel
theorem dX8_move_127 : decode cX8_move 127 = .ok (.iload_n 3, 1) := by decide +kernel
theorem dX8_move_128 : decode cX8_move 128 = .ok (.iadd, 1) := by decide +kernel
theorem dX8_move_129 : decode cX8_move 129 = .ok (.aload_n 0, 1) := by decide +kernel
theorem dX8_move_130 : decode cX8_move 130 = .ok (.getfield 49, 3) := by decide +kernel
theorem dX8_move_133 : decode cX8_move 133 = .ok (.bipush 8, 2) := by decide +kernel
theorem dX8_move_135 : decode cX8_move 135 = .ok (.iload_n 1, 1) := by decide +kernel
theorem dX8_move_136 : decode cX8_move 136 = .ok (.imul, 1) := by decide +kernel
theorem dX8_move_137 : decode cX8_move 137 = .ok (.iload_n 3, 1) := by decide +kernel
theorem dX8_move_138 : decode cX8_move 138 = .ok (.iadd, 1) := by decide +kernel
theorem dX8_move_139 : decode cX8_move 139 = .ok (.iaload, 1) := by decide +kernel
theorem dX8_move_140 : decode cX8_move 140 = .ok (.iastore, 1) := by decide +kernel
theorem dX8_move_141 : decode cX8_move 141 = .ok (.aload_n 0, 1) := by decide +kernel
theorem dX8_move_142 : decode cX8_move 142 = .ok (.getfield 52, 3) := by decide +kernel
theorem dX8_move_145 : decode cX8_move 145 = .ok (.bipush 8, 2) := by decide +kernel
theorem dX8_move_147 : decode cX8_move 147 = .ok (.iload_n 2, 1) := by decide +kernel
theorem dX8_move_148 : decode cX8_move 148 = .ok (.imul, 1) := by decide +kernel
theorem dX8_move_149 : decode cX8_move 149 = .ok (.iload_n 3, 1) := by decide +kernel
theorem dX8_move_150 : decode cX8_move 150 = .ok (.iadd, 1) := by decide +kernel
theorem dX8_move_151 : decode cX8_move 151 = .ok (.aload_n 0, 1) := by decide +kernel
theorem dX8_move_152 : decode cX8_move 152 = .ok (.getfield 52, 3) := by decide +kernel
theorem dX8_move_155 : decode cX8_move 155 = .ok (.bipush 8, 2) := by decide +kernel
theorem dX8_move_157 : decode cX8_move 157 = .ok (.iload_n 1, 1) := by decide +kernel
theorem dX8_move_158 : decode cX8_move 158 = .ok (.imul, 1) := by decide +kernel
theorem dX8_move_159 : decode cX8_move 159 = .ok (.iload_n 3, 1) := by decide +kernel
theorem dX8_move_160 : decode cX8_move 160 = .ok (.iadd, 1) := by decide +kernel
theorem dX8_move_161 : decode cX8_move 161 = .ok (.iaload, 1) := by decide +kernel
theorem dX8_move_162 : decode cX8_move 162 = .ok (.iastore, 1) := by decide +kernel
theorem dX8_move_163 : decode cX8_move 163 = .ok (.iinc 3 1, 3) := by decide +kernel
theorem dX8_move_166 : decode cX8_move 166 = .ok (.goto (-53), 3) := by decide +kernel
theorem dX8_move_169 : decode cX8_move 169 = .ok (.return_, 1) := by decide +kernel
theorem dX8_undo_0 : decode cX8_undo 0 = .ok (.aload_n 0, 1) := by decide +kernel
theorem dX8_undo_1 : decode cX8_undo 1 = .ok (.iconst 0, 1) := by decide +kernel
theorem dX8_undo_2 : decode cX8_undo 2 = .ok (.putfield 108, 3) := by decide +kernel
theorem dX8_undo_5 : decode cX8_undo 5 = .ok (.aload_n 0, 1) := by decide +kernel
theorem dX8_undo_6 : decode cX8_undo 6 = .ok (.getfield 246, 3) := by decide +kernel
theorem dX8_undo_9 : decode cX8_undo 9 = .ok (.ifCond .ne 6, 3) := by decide +kernel
theorem dX8_undo_12 : decode cX8_undo 12 = .ok (.bipush (-3), 2) := by decide +kernel
theorem dX8_undo_14 : decode cX8_undo 14 = .ok (.ireturn, 1) := by decide +kernel
theorem dX8_undo_15 : decode cX8_undo 15 = .ok (.aload_n 0, 1) := by decide +kernel
theorem dX8_undo_16 : decode cX8_undo 16 = .ok (.dup, 1) := by decide +kernel
theorem dX8_undo_17 : decode cX8_undo 17 = .ok (.getfield 246, 3) := by decide +kernel
theorem dX8_undo_20 : decode cX8_undo 20 = .ok (.iconst 1, 1) := by decide +kernel
theorem dX8_undo_21 : decode cX8_undo 21 = .ok (.isub, 1) := by decide +kernel
theorem dX8_undo_22 : decode cX8_undo 22 = .ok (.putfield 246, 3) := by decide +kernel
theorem dX8_undo_25 : decode cX8_undo 25 = .ok (.aload_n 0, 1) := by decide +kernel
theorem dX8_undo_26 : decode cX8_undo 26 = .ok (.getfield 246, 3) := by decide +kernel
theorem dX8_undo_29 : decode cX8_undo 29 = .ok (.istore_n 1, 1) := by decide +kernel
theorem dX8_undo_30 : decode cX8_undo 30 = .ok (.iconst 0, 1) := by decide +kernel
theorem dX8_undo_31 : decode cX8_undo 31 = .ok (.istore_n 2, 1) := by decide +kernel
theorem dX8_undo_32 : decode cX8_undo 32 = .ok (.iload_n 2, 1) := by decide +kernel
theorem dX8_undo_33 : decode cX8_undo 33 = .ok (.aload_n 0, 1) := by decide +kernel
theorem dX8_undo_34 : decode cX8_undo 34 = .ok (.getfield 34, 3) := by decide +kernel
theorem dX8_undo_37 : decode cX8_undo 37 = .ok (.iload_n 1, 1) := by decide +kernel
theorem dX8_undo_38 : decode cX8_undo 38 = .ok (.iaload, 1) := by decide +kernel
theorem dX8_undo_39 : decode cX8_undo 39 = .ok (.if_icmp .ge 52, 3) := by decide +kernel
theorem dX8_undo_42 : decode cX8_undo 42 = .ok (.aload_n 0, 1) := by decide +kernel
theorem dX8_undo_43 : decode cX8_undo 43 = .ok (.getfield 7, 3) := by decide +kernel
theorem dX8_undo_46 : decode cX8_undo 46 = .ok (.iload_n 2, 1) := by decide +kernel
theorem dX8_undo_47 : decode cX8_undo 47 = .ok (.aload_n 0, 1) := by decide +kernel
theorem dX8_undo_48 : decode cX8_undo 48 = .ok (.iload_n 2, 1) := by decide +kernel
theorem dX8_undo_49 : decode cX8_undo 49 = .ok (.invokevirtual 243, 3) := by decide +kernel
theorem dX8_undo_52 : decode cX8_undo 52 = .ok (.ifCond .eq 20, 3) := by decide +kernel
theorem dX8_undo_55 : decode cX8_undo 55 = .ok (.iload_n 2, 1) := by decide +kernel
theorem dX8_undo_56 : decode cX8_undo 56 = .ok (.aload_n 0, 1) := by decide +kernel
theorem dX8_undo_57 : decode cX8_undo 57 = .ok (.getfield 101, 3) := by decide +kernel
theorem dX8_undo_60 : decode cX8_undo 60 = .ok (.if_icmp .ge 12, 3) := by decide +kernel
theorem dX8_undo_63 : decode cX8_undo 63 = .ok (.aload_n 0, 1) := by decide +kernel
theorem dX8_undo_64 : decode cX8_undo 64 = .ok (.getfield 7, 3) := by decide +kernel
theorem dX8_undo_67 : decode cX8_undo 67 = .ok (.iload_n 2, 1) := by decide +kernel
theorem dX8_undo_68 : decode cX8_undo 68 = .ok (.iaload, 1) := by decide +kernel
theorem dX8_undo_69 : decode cX8_undo 69 = .ok (.goto 15, 3) := by decide +kernel
theorem dX8_undo_72 : decode cX8_undo 72 = .ok (.aload_n 0, 1) := by decide +kernel
theorem dX8_undo_73 : decode cX8_undo 73 = .ok (.getfield 37, 3) := by decide +kernel
theorem dX8_undo_76 : decode cX8_undo 76 = .ok (.sipush 512, 3) := by decide +kernel
theorem dX8_undo_79 : decode cX8_undo 79 = .ok (.iload_n 1, 1) := by decide +kernel
theorem dX8_undo_80 : decode cX8_undo 80 = .ok (.imul, 1) := by decide +kernel
theorem dX8_undo_81 : decode cX8_undo 81 = .ok (.iload_n 2, 1) := by decide +kernel
theorem dX8_undo_82 : decode cX8_undo 82 = .ok (.iadd, 1) := by decide +kernel
theorem dX8_undo_83 : decode cX8_undo 83 = .ok (.iaload, 1) := by decide +kernel
theorem dX8_undo_84 : decode cX8_undo 84 = .ok (.iastore, 1) := by decide +kernel
theorem dX8_undo_85 : decode cX8_undo 85 = .ok (.iinc 2 1, 3) := by decide +kernel
theorem dX8_undo_88 : decode cX8_undo 88 = .ok (.goto (-56), 3) := by decide +kernel
theorem dX8_undo_91 : decode cX8_undo 91 = .ok (.aload_n 0, 1) := by decide +kernel
theorem dX8_undo_92 : decode cX8_undo 92 = .ok (.aload_n 0, 1) := by decide +kernel
theorem dX8_undo_93 : decode cX8_undo 93 = .ok (.getfield 34, 3) := by decide +kernel
theorem dX8_undo_96 : decode cX8_undo 96 = .ok (.iload_n 1, 1) := by decide +kernel
theorem dX8_undo_97 : decode cX8_undo 97 = .ok (.iaload, 1) := by decide +kernel
theorem dX8_undo_98 : decode cX8_undo 98 = .ok (.putfield 101, 3) := by decide +kernel
theorem dX8_undo_101 : decode cX8_undo 101 = .ok (.aload_n 0, 1) := by decide +kernel
theorem dX8_undo_102 : decode cX8_undo 102 = .ok (.aload_n 0, 1) := by decide +kernel
theorem dX8_undo_103 : decode cX8_undo 103 = .ok (.getfield 40, 3) := by decide +kernel
theorem dX8_undo_106 : decode cX8_undo 106 = .ok (.iload_n 1, 1) := by decide +kernel
theorem dX8_undo_107 : decode cX8_undo 107 = .ok (.iaload, 1) := by decide +kernel
theorem dX8_undo_108 : decode cX8_undo 108 = .ok (.putfield 122, 3) := by decide +kernel
theorem dX8_undo_111 : decode cX8_undo 111 = .ok (.iconst 0, 1) := by decide +kernel
theorem dX8_undo_112 : decode cX8_undo 112 = .ok (.istore_n 2, 1) := by decide +kernel
theorem dX8_undo_113 : decode cX8_undo 113 = .ok (.iload_n 2, 1) := by decide +kernel
theorem dX8_undo_114 : decode cX8_undo 114 = .ok (.bipush 40, 2) := by decide +kernel
theorem dX8_undo_116 : decode cX8_undo 116 = .ok (.if_icmp .ge 26, 3) := by decide +kernel
theorem dX8_undo_119 : decode cX8_undo 119 = .ok (.aload_n 0, 1) := by decide +kernel
theorem dX8_undo_120 : decode cX8_undo 120 = .ok (.getfield 13, 3) := by decide +kernel
theorem dX8_undo_123 : decode cX8_undo 123 = .ok (.iload_n 2, 1) := by decide +kernel
theorem dX8_undo_124 : decode cX8_undo 124 = .ok (.aload_n 0, 1) := by decide +kernel
theorem dX8_undo_125 : decode cX8_undo 125 = .ok (.getfield 43, 3) := by decide +kernel
theorem dX8_undo_128 : decode cX8_undo 128 = .ok (.bipush 40, 2) := by decide +kernel
theorem dX8_undo_130 : decode cX8_undo 130 = .ok (.iload_n 1, 1) := by decide +kernel
theorem dX8_undo_131 : decode cX8_undo 131 = .ok (.imul, 1) := by decide +kernel
theorem dX8_undo_132 : decode cX8_undo 132 = .ok (.iload_n 2, 1) := by decide +kernel
theorem dX8_undo_133 : decode cX8_undo 133 = .ok (.iadd, 1) := by decide +kernel
theorem dX8_undo_134 : decode cX8_undo 134 = .ok (.iaload, 1) := by decide +kernel
theorem dX8_undo_135 : decode cX8_undo 135 = .ok (.iastore, 1) := by decide +kernel
theorem dX8_undo_136 : decode cX8_undo 136 = .ok (.iinc 2 1, 3) := by decide +kernel
theorem dX8_undo_139 : decode cX8_undo 139 = .ok (.goto (-26), 3) := by decide +kernel
theorem dX8_undo_142 : decode cX8_undo 142 = .ok (.aload_n 0, 1) := by decide +kernel
theorem dX8_undo_143 : decode cX8_undo 143 = .ok (.aload_n 0, 1) := by decide +kernel
theorem dX8_undo_144 : decode cX8_undo 144 = .ok (.getfield 46, 3) := by decide +kernel
theorem dX8_undo_147 : decode cX8_undo 147 = .ok (.iload_n 1, 1) := by decide +kernel
theorem dX8_undo_148 : decode cX8_undo 148 = .ok (.iaload, 1) := by decide +kernel
theorem dX8_undo_149 : decode cX8_undo 149 = .ok (.putfield 119, 3) := by decide +kernel
theorem dX8_undo_152 : decode cX8_undo 152 = .ok (.iconst 0, 1) := by decide +kernel
theorem dX8_undo_153 : decode cX8_undo 153 = .ok (.istore_n 2, 1) := by decide +kernel
theorem dX8_undo_154 : decode cX8_undo 154 = .ok (.iload_n 2, 1) := by decide +kernel
theorem dX8_undo_155 : decode cX8_undo 155 = .ok (.bipush 8, 2) := by decide +kernel
theorem dX8_undo_157 : decode cX8_undo 157 = .ok (.if_icmp .ge 43, 3) := by decide +kernel
theorem dX8_undo_160 : decode cX8_undo 160 = .ok (.aload_n 0, 1) := by decide +kernel
theorem dX8_undo_161 : decode cX8_undo 161 = .ok (.getfield 16, 3) := by decide +kernel
theorem dX8_undo_164 : decode cX8_undo 164 = .ok (.iload_n 2, 1) := by decide +kernel
theorem dX8_undo_165 : decode cX8_undo 165 = .ok (.aload_n 0, 1) := by decide +kernel
theorem dX8_undo_166 : decode cX8_undo 166 = .ok (.getfield 49, 3) := by decide +kernel
theorem dX8_undo_169 : decode cX8_undo 169 = .ok (.bipush 8, 2) := by decide +kernel
theorem dX8_undo_171 : decode cX8_undo 171 = .ok (.iload_n 1, 1) := by decide +kernel
theorem dX8_undo_172 : decode cX8_undo 172 = .ok (.imul, 1) := by decide +kernel
theorem dX8_undo_173 : decode cX8_undo 173 = .ok (.iload_n 2, 1) := by decide +kernel
theorem dX8_undo_174 : decode cX8_undo 174 = .ok (.iadd, 1) := by decide +kernel
theorem dX8_undo_175 : decode cX8_undo 175 = .ok (.iaload, 1) := by decide +kernel
theorem dX8_undo_176 : decode cX8_undo 176 = .ok (.iastore, 1) := by decide +kernel
theorem dX8_undo_177 : decode cX8_undo 177 = .ok (.aload_n 0, 1) := by decide +kernel
theorem dX8_undo_178 : decode cX8_undo 178 = .ok (.getfield 19, 3) := by decide +kernel
theorem dX8_undo_181 : decode cX8_undo 181 = .ok (.iload_n 2, 1) := by decide +kernel
theorem dX8_undo_182 : decode cX8_undo 182 = .ok (.aload_n 0, 1) := by decide +kernel
theorem dX8_undo_183 : decode cX8_undo 183 = .ok (.getfield 52, 3) := by decide +kernel
theorem dX8_undo_186 : decode cX8_undo 186 = .ok (.bipush 8, 2) := by decide +kernel
theorem dX8_undo_188 : decode cX8_undo 188 = .ok (.iload_n 1, 1) := by decide +kernel
theorem dX8_undo_189 : decode cX8_undo 189 = .ok (.imul, 1) := by decide +kernel
theorem dX8_undo_190 : decode cX8_undo 190 = .ok (.iload_n 2, 1) := by decide +kernel
theorem dX8_undo_191 : decode cX8_undo 191 = .ok (.iadd, 1) := by decide +kernel
theorem dX8_undo_192 : decode cX8_undo 192 = .ok (.iaload, 1) := by decide +kernel
theorem dX8_undo_193 : decode cX8_undo 193 = .ok (.iastore, 1) := by decide +kernel
theorem dX8_undo_194 : decode cX8_undo 194 = .ok (.iinc 2 1, 3) := by decide +kernel
theorem dX8_undo_197 : decode cX8_undo 197 = .ok (.goto (-43), 3) := by decide +kernel
theorem dX8_undo_200 : decode cX8_undo 200 = .ok (.aload_n 0, 1) := by decide +kernel
theorem dX8_undo_201 : decode cX8_undo 201 = .ok (.getfield 246, 3) := by decide +kernel
theorem dX8_undo_204 : decode cX8_undo 204 = .ok (.ireturn, 1) := by decide +kernel
theorem dX8_restart_0 : decode cX8_restart 0 = .ok (.aload_n 0, 1) := by decide +kernel
theorem dX8_restart_1 : decode cX8_restart 1 = .ok (.iconst 0, 1) := by decide +kernel
theorem dX8_restart_2 : decode cX8_restart 2 = .ok (.putfield 108, 3) := by decide +kernel
theorem dX8_restart_5 : decode cX8_restart 5 = .ok (.aload_n 0, 1) := by decide +kernel
theorem dX8_restart_6 : decode cX8_restart 6 = .ok (.aload_n 0, 1) := by decide +kernel
theorem dX8_restart_7 : decode cX8_restart 7 = .ok (.getfield 98, 3) := by decide +kernel
theorem dX8_restart_10 : decode cX8_restart 10 = .ok (.putfield 101, 3) := by decide +kernel
theorem dX8_restart_13 : decode cX8_restart 13 = .ok (.iconst 0, 1) := by decide +kernel
theorem dX8_restart_14 : decode cX8_restart 14 = .ok (.istore_n 1, 1) := by decide +kernel
theorem dX8_restart_15 : decode cX8_restart 15 = .ok (.iload_n 1, 1) := by decide +kernel
theorem dX8_restart_16 : decode cX8_restart 16 = .ok (.aload_n 0, 1) := by decide +kernel
theorem dX8_restart_17 : decode cX8_restart 17 = .ok (.getfield 101, 3) := by decide +kernel
theorem dX8_restart_20 : decode cX8_restart 20 = .ok (.if_icmp .ge 37, 3) := by decide +kernel
theorem dX8_restart_23 : decode cX8_restart 23 = .ok (.aload_n 0, 1) := by decide +kernel
theorem dX8_restart_24 : decode cX8_restart 24 = .ok (.getfield 7, 3) := by decide +kernel
theorem dX8_restart_27 : decode cX8_restart 27 = .ok (.iload_n 1, 1) := by decide +kernel
theorem dX8_restart_28 : decode cX8_restart 28 = .ok (.aload_n 0, 1) := by decide +kernel
theorem dX8_restart_29 : decode cX8_restart 29 = .ok (.iload_n 1, 1) := by decide +kernel
theorem dX8_restart_30 : decode cX8_restart 30 = .ok (.invokevirtual 243, 3) := by decide +kernel
theorem dX8_restart_33 : decode cX8_restart 33 = .ok (.ifCond .eq 12, 3) := by decide +kernel
theorem dX8_restart_36 : decode cX8_restart 36 = .ok (.aload_n 0, 1) := by decide +kernel
theorem dX8_restart_37 : decode cX8_restart 37 = .ok (.getfield 7, 3) := by decide +kernel
theorem dX8_restart_40 : decode cX8_restart 40 = .ok (.iload_n 1, 1) := by decide +kernel
theorem dX8_restart_41 : decode cX8_restart 41 = .ok (.iaload, 1) := by decide +kernel
theorem dX8_restart_42 : decode cX8_restart 42 = .ok (.goto 8, 3) := by decide +kernel
theorem dX8_restart_45 : decode cX8_restart 45 = .ok (.aload_n 0, 1) := by decide +kernel
theorem dX8_restart_46 : decode cX8_restart 46 = .ok (.iload_n 1, 1) := by decide +kernel
theorem dX8_restart_47 : decode cX8_restart 47 = .ok (.invokevirtual 104, 3) := by decide +kernel
theorem dX8_restart_50 : decode cX8_restart 50 = .ok (.iastore, 1) := by decide +kernel
theorem dX8_restart_51 : decode cX8_restart 51 = .ok (.iinc 1 1, 3) := by decide +kernel
theorem dX8_restart_54 : decode cX8_restart 54 = .ok (.goto (-39), 3) := by decide +kernel
theorem dX8_restart_57 : decode cX8_restart 57 = .ok (.aload_n 0, 1) := by decide +kernel
theorem dX8_restart_58 : decode cX8_restart 58 = .ok (.iconst 0, 1) := by decide +kernel
theorem dX8_restart_59 : decode cX8_restart 59 = .ok (.putfield 122, 3) := by decide +kernel
theorem dX8_restart_62 : decode cX8_restart 62 = .ok (.aload_n 0, 1) := by decide +kernel
theorem dX8_restart_63 : decode cX8_restart 63 = .ok (.iconst 0, 1) := by decide +kernel
theorem dX8_restart_64 : decode cX8_restart 64 = .ok (.putfield 119, 3) := by decide +kernel
theorem dX8_restart_67 : decode cX8_restart 67 = .ok (.iconst 1, 1) := by decide +kernel
theorem dX8_restart_68 : decode cX8_restart 68 = .ok (.ireturn, 1) := by decide +kernel
theorem dX8_at_0 : decode cX8_at 0 = .ok (.aload_n 0, 1) := by decide +kernel
theorem dX8_at_1 : decode cX8_at 1 = .ok (.iconst 0, 1) := by decide +kernel
theorem dX8_at_2 : decode cX8_at 2 = .ok (.putfield 108, 3) := by decide +kernel
theorem dX8_at_5 : decode cX8_at 5 = .ok (.iload_n 1, 1) := by decide +kernel
theorem dX8_at_6 : decode cX8_at 6 = .ok (.i2l, 1) := by decide +kernel
theorem dX8_at_7 : decode cX8_at 7 = .ok (.lconst 0, 1) := by decide +kernel
theorem dX8_at_8 : decode cX8_at 8 = .ok (.aload_n 0, 1) := by decide +kernel
theorem dX8_at_9 : decode cX8_at 9 = .ok (.getfield 167, 3) := by decide +kernel
theorem dX8_at_12 : decode cX8_at 12 = .ok (.iconst 1, 1) := by decide +kernel
theorem dX8_at_13 : decode cX8_at 13 = .ok (.isub, 1) := by decide +kernel
theorem dX8_at_14 : decode cX8_at 14 = .ok (.i2l, 1) := by decide +kernel
theorem dX8_at_15 : decode cX8_at 15 = .ok (.invokestatic 87, 3) := by decide +kernel
theorem dX8_at_18 : decode cX8_at 18 = .ok (.ifCond .eq 12, 3) := by decide +kernel
theorem dX8_at_21 : decode cX8_at 21 = .ok (.aload_n 0, 1) := by decide +kernel
theorem dX8_at_22 : decode cX8_at 22 = .ok (.getfield 22, 3) := by decide +kernel
theorem dX8_at_25 : decode cX8_at 25 = .ok (.iload_n 1, 1) := by decide +kernel
theorem dX8_at_26 : decode cX8_at 26 = .ok (.iaload, 1) := by decide +kernel
theorem dX8_at_27 : decode cX8_at 27 = .ok (.goto 4, 3) := by decide +kernel
theorem dX8_at_30 : decode cX8_at 30 = .ok (.iconst (-1), 1) := by decide +kernel
theorem dX8_at_31 : decode cX8_at 31 = .ok (.ireturn, 1) := by decide +kernel
theorem dX8_alter_0 : decode cX8_alter 0 = .ok (.aload_n 0, 1) := by decide +kernel
theorem dX8_alter_1 : decode cX8_alter 1 = .ok (.iconst 0, 1) := by decide +kernel
theorem dX8_alter_2 : decode cX8_alter 2 = .ok (.putfield 108, 3) := by decide +kernel
theorem dX8_alter_5 : decode cX8_alter 5 = .ok (.iload_n 1, 1) := by decide +kernel
theorem dX8_alter_6 : decode cX8_alter 6 = .ok (.i2l, 1) := by decide +kernel
theorem dX8_alter_7 : decode cX8_alter 7 = .ok (.lconst 0, 1) := by decide +kernel
theorem dX8_alter_8 : decode cX8_alter 8 = .ok (.aload_n 0, 1) := by decide +kernel
theorem dX8_alter_9 : decode cX8_alter 9 = .ok (.getfield 167, 3) := by decide +kernel
theorem dX8_alter_12 : decode cX8_alter 12 = .ok (.iconst 1, 1) := by decide +kernel
theorem dX8_alter_13 : decode cX8_alter 13 = .ok (.isub, 1) := by decide +kernel
theorem dX8_alter_14 : decode cX8_alter 14 = .ok (.i2l, 1) := by decide +kernel
theorem dX8_alter_15 : decode cX8_alter 15 = .ok (.invokestatic 87, 3) := by decide +kernel
theorem dX8_alter_18 : decode cX8_alter 18 = .ok (.ifCond .ne 5, 3) := by decide +kernel
theorem dX8_alter_21 : decode cX8_alter 21 = .ok (.iconst (-1), 1) := by decide +kernel
theorem dX8_alter_22 : decode cX8_alter 22 = .ok (.ireturn, 1) := by decide +kernel
theorem dX8_alter_23 : decode cX8_alter 23 = .ok (.iload_n 2, 1) := by decide +kernel
theorem dX8_alter_24 : decode cX8_alter 24 = .ok (.i2l, 1) := by decide +kernel
theorem dX8_alter_25 : decode cX8_alter 25 = .ok (.lconst 0, 1) := by decide +kernel
theorem dX8_alter_26 : decode cX8_alter 26 = .ok (.ldc2_w 113, 3) := by decide +kernel
theorem dX8_alter_29 : decode cX8_alter 29 = .ok (.invokestatic 87, 3) := by decide +kernel
theorem dX8_alter_32 : decode cX8_alter 32 = .ok (.ifCond .ne 6, 3) := by decide +kernel
theorem dX8_alter_35 : decode cX8_alter 35 = .ok (.bipush (-2), 2) := by decide +kernel
theorem dX8_alter_37 : decode cX8_alter 37 = .ok (.ireturn, 1) := by decide +kernel
theorem dX8_alter_38 : decode cX8_alter 38 = .ok (.aload_n 0, 1) := by decide +kernel
theorem dX8_alter_39 : decode cX8_alter 39 = .ok (.getfield 22, 3) := by decide +kernel
theorem dX8_alter_42 : decode cX8_alter 42 = .ok (.iload_n 1, 1) := by decide +kernel
theorem dX8_alter_43 : decode cX8_alter 43 = .ok (.dup2, 1) := by decide +kernel
theorem dX8_alter_44 : decode cX8_alter 44 = .ok (.iaload, 1) := by decide +kernel
theorem dX8_alter_45 : decode cX8_alter 45 = .ok (.iload_n 2, 1) := by decide +kernel
theorem dX8_alter_46 : decode cX8_alter 46 = .ok (.ixor, 1) := by decide +kernel
theorem dX8_alter_47 : decode cX8_alter 47 = .ok (.iastore, 1) := by decide +kernel
theorem dX8_alter_48 : decode cX8_alter 48 = .ok (.aload_n 0, 1) := by decide +kernel
theorem dX8_alter_49 : decode cX8_alter 49 = .ok (.getfield 22, 3) := by decide +kernel
theorem dX8_alter_52 : decode cX8_alter 52 = .ok (.iload_n 1, 1) := by decide +kernel
theorem dX8_alter_53 : decode cX8_alter 53 = .ok (.iaload, 1) := by decide +kernel
theorem dX8_alter_54 : decode cX8_alter 54 = .ok (.ireturn, 1) := by decide +kernel
theorem dX8_cut_0 : decode cX8_cut 0 = .ok (.aload_n 0, 1) := by decide +kernel
theorem dX8_cut_1 : decode cX8_cut 1 = .ok (.iconst 0, 1) := by decide +kernel
theorem dX8_cut_2 : decode cX8_cut 2 = .ok (.putfield 108, 3) := by decide +kernel
theorem dX8_cut_5 : decode cX8_cut 5 = .ok (.iload_n 1, 1) := by decide +kernel
theorem dX8_cut_6 : decode cX8_cut 6 = .ok (.i2l, 1) := by decide +kernel
theorem dX8_cut_7 : decode cX8_cut 7 = .ok (.lconst 0, 1) := by decide +kernel
theorem dX8_cut_8 : decode cX8_cut 8 = .ok (.aload_n 0, 1) := by decide +kernel
theorem dX8_cut_9 : decode cX8_cut 9 = .ok (.getfield 167, 3) := by decide +kernel
theorem dX8_cut_12 : decode cX8_cut 12 = .ok (.i2l, 1) := by decide +kernel
theorem dX8_cut_13 : decode cX8_cut 13 = .ok (.invokestatic 87, 3) := by decide +kernel
theorem dX8_cut_16 : decode cX8_cut 16 = .ok (.ifCond .ne 6, 3) := by decide +kernel
theorem dX8_cut_19 : decode cX8_cut 19 = .ok (.bipush (-2), 2) := by decide +kernel
theorem dX8_cut_21 : decode cX8_cut 21 = .ok (.ireturn, 1) := by decide +kernel
theorem dX8_cut_22 : decode cX8_cut 22 = .ok (.aload_n 0, 1) := by decide +kernel
theorem dX8_cut_23 : decode cX8_cut 23 = .ok (.getfield 167, 3) := by decide +kernel
theorem dX8_cut_26 : decode cX8_cut 26 = .ok (.iload_n 1, 1) := by decide +kernel
theorem dX8_cut_27 : decode cX8_cut 27 = .ok (.isub, 1) := by decide +kernel
theorem dX8_cut_28 : decode cX8_cut 28 = .ok (.istore_n 2, 1) := by decide +kernel
theorem dX8_cut_29 : decode cX8_cut 29 = .ok (.aload_n 0, 1) := by decide +kernel
theorem dX8_cut_30 : decode cX8_cut 30 = .ok (.iload_n 1, 1) := by decide +kernel
theorem dX8_cut_31 : decode cX8_cut 31 = .ok (.putfield 167, 3) := by decide +kernel
theorem dX8_cut_34 : decode cX8_cut 34 = .ok (.iload_n 2, 1) := by decide +kernel
theorem dX8_cut_35 : decode cX8_cut 35 = .ok (.ireturn, 1) := by decide +kernel
theorem dX8_more_0 : decode cX8_more 0 = .ok (.aload_n 0, 1) := by decide +kernel
theorem dX8_more_1 : decode cX8_more 1 = .ok (.iconst 0, 1) := by decide +kernel
theorem dX8_more_2 : decode cX8_more 2 = .ok (.putfield 108, 3) := by decide +kernel
theorem dX8_more_5 : decode cX8_more 5 = .ok (.iload_n 3, 1) := by decide +kernel
theorem dX8_more_6 : decode cX8_more 6 = .ok (.i2l, 1) := by decide +kernel
theorem dX8_more_7 : decode cX8_more 7 = .ok (.lconst 0, 1) := by decide +kernel
theorem dX8_more_8 : decode cX8_more 8 = .ok (.ldc2_w 252, 3) := by decide +kernel
theorem dX8_more_11 : decode cX8_more 11 = .ok (.invokestatic 87, 3) := by decide +kernel
theorem dX8_more_14 : decode cX8_more 14 = .ok (.ifCond .ne 6, 3) := by decide +kernel
theorem dX8_more_17 : decode cX8_more 17 = .ok (.bipush (-2), 2) := by decide +kernel
theorem dX8_more_19 : decode cX8_more 19 = .ok (.ireturn, 1) := by decide +kernel
theorem dX8_more_20 : decode cX8_more 20 = .ok (.aload_n 0, 1) := by decide +kernel
theorem dX8_more_21 : decode cX8_more 21 = .ok (.getfield 167, 3) := by decide +kernel
theorem dX8_more_24 : decode cX8_more 24 = .ok (.iload_n 3, 1) := by decide +kernel
theorem dX8_more_25 : decode cX8_more 25 = .ok (.iadd, 1) := by decide +kernel
theorem dX8_more_26 : decode cX8_more 26 = .ok (.sipush 1200, 3) := by decide +kernel
theorem dX8_more_29 : decode cX8_more 29 = .ok (.if_icmp .le 6, 3) := by decide +kernel
theorem dX8_more_32 : decode cX8_more 32 = .ok (.bipush (-4), 2) := by decide +kernel
theorem dX8_more_34 : decode cX8_more 34 = .ok (.ireturn, 1) := by decide +kernel
theorem dX8_more_35 : decode cX8_more 35 = .ok (.iload_n 3, 1) := by decide +kernel
theorem dX8_more_36 : decode cX8_more 36 = .ok (.iconst 1, 1) := by decide +kernel
theorem dX8_more_37 : decode cX8_more 37 = .ok (.isub, 1) := by decide +kernel
theorem dX8_more_38 : decode cX8_more 38 = .ok (.istore 4, 2) := by decide +kernel
theorem dX8_more_40 : decode cX8_more 40 = .ok (.iload 4, 2) := by decide +kernel
theorem dX8_more_42 : decode cX8_more 42 = .ok (.ifCond .lt 40, 3) := by decide +kernel
theorem dX8_more_45 : decode cX8_more 45 = .ok (.aload_n 0, 1) := by decide +kernel
theorem dX8_more_46 : decode cX8_more 46 = .ok (.getfield 22, 3) := by decide +kernel
theorem dX8_more_49 : decode cX8_more 49 = .ok (.aload_n 0, 1) := by decide +kernel
theorem dX8_more_50 : decode cX8_more 50 = .ok (.getfield 167, 3) := by decide +kernel
theorem dX8_more_53 : decode cX8_more 53 = .ok (.lload_n 1, 1) := by decide +kernel
theorem dX8_more_54 : decode cX8_more 54 = .ok (.bipush 8, 2) := by decide +kernel
theorem dX8_more_56 : decode cX8_more 56 = .ok (.iload 4, 2) := by decide +kernel
theorem dX8_more_58 : decode cX8_more 58 = .ok (.imul, 1) := by decide +kernel
theorem dX8_more_59 : decode cX8_more 59 = .ok (.lshr, 1) := by decide +kernel
theorem dX8_more_60 : decode cX8_more 60 = .ok (.l2i, 1) := by decide +kernel
theorem dX8_more_61 : decode cX8_more 61 = .ok (.sipush 255, 3) := by decide +kernel
theorem dX8_more_64 : decode cX8_more 64 = .ok (.iand, 1) := by decide +kernel
theorem dX8_more_65 : decode cX8_more 65 = .ok (.iastore, 1) := by decide +kernel
theorem dX8_more_66 : decode cX8_more 66 = .ok (.aload_n 0, 1) := by decide +kernel
theorem dX8_more_67 : decode cX8_more 67 = .ok (.dup, 1) := by decide +kernel
theorem dX8_more_68 : decode cX8_more 68 = .ok (.getfield 167, 3) := by decide +kernel
theorem dX8_more_71 : decode cX8_more 71 = .ok (.iconst 1, 1) := by decide +kernel
theorem dX8_more_72 : decode cX8_more 72 = .ok (.iadd, 1) := by decide +kernel
theorem dX8_more_73 : decode cX8_more 73 = .ok (.putfield 167, 3) := by decide +kernel
theorem dX8_more_76 : decode cX8_more 76 = .ok (.iinc 4 (-1), 3) := by decide +kernel
theorem dX8_more_79 : decode cX8_more 79 = .ok (.goto (-39), 3) := by decide +kernel
theorem dX8_more_82 : decode cX8_more 82 = .ok (.aload_n 0, 1) := by decide +kernel
theorem dX8_more_83 : decode cX8_more 83 = .ok (.getfield 167, 3) := by decide +kernel
theorem dX8_more_86 : decode cX8_more 86 = .ok (.ireturn, 1) := by decide +kernel
theorem dX8_seal_0 : decode cX8_seal 0 = .ok (.aload_n 0, 1) := by decide +kernel
theorem dX8_seal_1 : decode cX8_seal 1 = .ok (.iconst 0, 1) := by decide +kernel
theorem dX8_seal_2 : decode cX8_seal 2 = .ok (.putfield 108, 3) := by decide +kernel
theorem dX8_seal_5 : decode cX8_seal 5 = .ok (.aload_n 0, 1) := by decide +kernel
theorem dX8_seal_6 : decode cX8_seal 6 = .ok (.getfield 167, 3) := by decide +kernel
theorem dX8_seal_9 : decode cX8_seal 9 = .ok (.bipush 8, 2) := by decide +kernel
theorem dX8_seal_11 : decode cX8_seal 11 = .ok (.if_icmp .ge 6, 3) := by decide +kernel
theorem dX8_seal_14 : decode cX8_seal 14 = .ok (.bipush (-3), 2) := by decide +kernel
theorem dX8_seal_16 : decode cX8_seal 16 = .ok (.ireturn, 1) := by decide +kernel
theorem dX8_seal_17 : decode cX8_seal 17 = .ok (.aload_n 0, 1) := by decide +kernel
theorem dX8_seal_18 : decode cX8_seal 18 = .ok (.getfield 167, 3) := by decide +kernel
theorem dX8_seal_21 : decode cX8_seal 21 = .ok (.bipush 8, 2) := by decide +kernel
theorem dX8_seal_23 : decode cX8_seal 23 = .ok (.isub, 1) := by decide +kernel
theorem dX8_seal_24 : decode cX8_seal 24 = .ok (.istore_n 1, 1) := by decide +kernel
theorem dX8_seal_25 : decode cX8_seal 25 = .ok (.iconst 0, 1) := by decide +kernel
theorem dX8_seal_26 : decode cX8_seal 26 = .ok (.istore_n 2, 1) := by decide +kernel
theorem dX8_seal_27 : decode cX8_seal 27 = .ok (.iload_n 2, 1) := by decide +kernel
theorem dX8_seal_28 : decode cX8_seal 28 = .ok (.iconst 4, 1) := by decide +kernel
theorem dX8_seal_29 : decode cX8_seal 29 = .ok (.if_icmp .ge 30, 3) := by decide +kernel
theorem dX8_seal_32 : decode cX8_seal 32 = .ok (.aload_n 0, 1) := by decide +kernel
theorem dX8_seal_33 : decode cX8_seal 33 = .ok (.getfield 22, 3) := by decide +kernel
theorem dX8_seal_36 : decode cX8_seal 36 = .ok (.iconst 4, 1) := by decide +kernel
theorem dX8_seal_37 : decode cX8_seal 37 = .ok (.iload_n 2, 1) := by decide +kernel
theorem dX8_seal_38 : decode cX8_seal 38 = .ok (.iadd, 1) := by decide +kernel
theorem dX8_seal_39 : decode cX8_seal 39 = .ok (.iload_n 1, 1) := by decide +kernel
theorem dX8_seal_40 : decode cX8_seal 40 = .ok (.bipush 24, 2) := by decide +kernel
theorem dX8_seal_42 : decode cX8_seal 42 = .ok (.bipush 8, 2) := by decide +kernel
theorem dX8_seal_44 : decode cX8_seal 44 = .ok (.iload_n 2, 1) := by decide +kernel
theorem dX8_seal_45 : decode cX8_seal 45 = .ok (.imul, 1) := by decide +kernel
theorem dX8_seal_46 : decode cX8_seal 46 = .ok (.isub, 1) := by decide +kernel
theorem dX8_seal_47 : decode cX8_seal 47 = .ok (.ishr, 1) := by decide +kernel
theorem dX8_seal_48 : decode cX8_seal 48 = .ok (.sipush 255, 3) := by decide +kernel
theorem dX8_seal_51 : decode cX8_seal 51 = .ok (.iand, 1) := by decide +kernel
theorem dX8_seal_52 : decode cX8_seal 52 = .ok (.iastore, 1) := by decide +kernel
theorem dX8_seal_53 : decode cX8_seal 53 = .ok (.iinc 2 1, 3) := by decide +kernel
theorem dX8_seal_56 : decode cX8_seal 56 = .ok (.goto (-29), 3) := by decide +kernel
theorem dX8_seal_59 : decode cX8_seal 59 = .ok (.iload_n 1, 1) := by decide +kernel
theorem dX8_seal_60 : decode cX8_seal 60 = .ok (.ireturn, 1) := by decide +kernel
theorem dX8_count_0 : decode cX8_count 0 = .ok (.aload_n 0, 1) := by decide +kernel
theorem dX8_count_1 : decode cX8_count 1 = .ok (.iconst 0, 1) := by decide +kernel
theorem dX8_count_2 : decode cX8_count 2 = .ok (.putfield 108, 3) := by decide +kernel
theorem dX8_count_5 : decode cX8_count 5 = .ok (.iconst 0, 1) := by decide +kernel
theorem dX8_count_6 : decode cX8_count 6 = .ok (.istore_n 2, 1) := by decide +kernel
theorem dX8_count_7 : decode cX8_count 7 = .ok (.iconst 0, 1) := by decide +kernel
theorem dX8_count_8 : decode cX8_count 8 = .ok (.istore_n 3, 1) := by decide +kernel
theorem dX8_count_9 : decode cX8_count 9 = .ok (.iload_n 3, 1) := by decide +kernel
theorem dX8_count_10 : decode cX8_count 10 = .ok (.aload_n 0, 1) := by decide +kernel
theorem dX8_count_11 : decode cX8_count 11 = .ok (.getfield 164, 3) := by decide +kernel
theorem dX8_count_14 : decode cX8_count 14 = .ok (.if_icmp .ge 18, 3) := by decide +kernel
theorem dX8_count_17 : decode cX8_count 17 = .ok (.iload_n 2, 1) := by decide +kernel
theorem dX8_count_18 : decode cX8_count 18 = .ok (.aload_n 0, 1) := by decide +kernel
theorem dX8_count_19 : decode cX8_count 19 = .ok (.getfield 28, 3) := by decide +kernel
theorem dX8_count_22 : decode cX8_count 22 = .ok (.iload_n 3, 1) := by decide +kernel
theorem dX8_count_23 : decode cX8_count 23 = .ok (.iaload, 1) := by decide +kernel
theorem dX8_count_24 : decode cX8_count 24 = .ok (.iadd, 1) := by decide +kernel
theorem dX8_count_25 : decode cX8_count 25 = .ok (.istore_n 2, 1) := by decide +kernel
theorem dX8_count_26 : decode cX8_count 26 = .ok (.iinc 3 1, 3) := by decide +kernel
theorem dX8_count_29 : decode cX8_count 29 = .ok (.goto (-20), 3) := by decide +kernel
theorem dX8_count_32 : decode cX8_count 32 = .ok (.iload_n 1, 1) := by decide +kernel
theorem dX8_count_33 : decode cX8_count 33 = .ok (.tableswitch 75 0 6 #[43, 48, 53, 58, 63, 68, 73], 43) := by decide +kernel
theorem dX8_count_76 : decode cX8_count 76 = .ok (.aload_n 0, 1) := by decide +kernel
theorem dX8_count_77 : decode cX8_count 77 = .ok (.getfield 101, 3) := by decide +kernel
theorem dX8_count_80 : decode cX8_count 80 = .ok (.ireturn, 1) := by decide +kernel
theorem dX8_count_81 : decode cX8_count 81 = .ok (.aload_n 0, 1) := by decide +kernel
theorem dX8_count_82 : decode cX8_count 82 = .ok (.getfield 122, 3) := by decide +kernel
theorem dX8_count_85 : decode cX8_count 85 = .ok (.ireturn, 1) := by decide +kernel
theorem dX8_count_86 : decode cX8_count 86 = .ok (.aload_n 0, 1) := by decide +kernel
theorem dX8_count_87 : decode cX8_count 87 = .ok (.getfield 119, 3) := by decide +kernel
theorem dX8_count_90 : decode cX8_count 90 = .ok (.ireturn, 1) := by decide +kernel
theorem dX8_count_91 : decode cX8_count 91 = .ok (.aload_n 0, 1) := by decide +kernel
theorem dX8_count_92 : decode cX8_count 92 = .ok (.getfield 167, 3) := by decide +kernel
theorem dX8_count_95 : decode cX8_count 95 = .ok (.ireturn, 1) := by decide +kernel
theorem dX8_count_96 : decode cX8_count 96 = .ok (.aload_n 0, 1) := by decide +kernel
theorem dX8_count_97 : decode cX8_count 97 = .ok (.getfield 246, 3) := by decide +kernel
theorem dX8_count_100 : decode cX8_count 100 = .ok (.ireturn, 1) := by decide +kernel
theorem dX8_count_101 : decode cX8_count 101 = .ok (.aload_n 0, 1) := by decide +kernel
theorem dX8_count_102 : decode cX8_count 102 = .ok (.getfield 164, 3) := by decide +kernel
theorem dX8_count_105 : decode cX8_count 105 = .ok (.ireturn, 1) := by decide +kernel
theorem dX8_count_106 : decode cX8_count 106 = .ok (.iload_n 2, 1) := by decide +kernel
theorem dX8_count_107 : decode cX8_count 107 = .ok (.ireturn, 1) := by decide +kernel
theorem dX8_count_108 : decode cX8_count 108 = .ok (.bipush (-2), 2) := by decide +kernel
theorem dX8_count_110 : decode cX8_count 110 = .ok (.ireturn, 1) := by decide +kernel
theorem dX8_hash_0 : decode cX8_hash 0 = .ok (.aload_n 0, 1) := by decide +kernel
theorem dX8_hash_1 : decode cX8_hash 1 = .ok (.iconst 0, 1) := by decide +kernel
theorem dX8_hash_2 : decode cX8_hash 2 = .ok (.putfield 108, 3) := by decide +kernel
theorem dX8_hash_5 : decode cX8_hash 5 = .ok (.aload_n 0, 1) := by decide +kernel
theorem dX8_hash_6 : decode cX8_hash 6 = .ok (.getfield 101, 3) := by decide +kernel
theorem dX8_hash_9 : decode cX8_hash 9 = .ok (.istore_n 1, 1) := by decide +kernel
theorem dX8_hash_10 : decode cX8_hash 10 = .ok (.iconst 0, 1) := by decide +kernel
theorem dX8_hash_11 : decode cX8_hash 11 = .ok (.istore_n 2, 1) := by decide +kernel
theorem dX8_hash_12 : decode cX8_hash 12 = .ok (.iload_n 2, 1) := by decide +kernel
theorem dX8_hash_13 : decode cX8_hash 13 = .ok (.aload_n 0, 1) := by decide +kernel
theorem dX8_hash_14 : decode cX8_hash 14 = .ok (.getfield 101, 3) := by decide +kernel
theorem dX8_hash_17 : decode cX8_hash 17 = .ok (.if_icmp .ge 21, 3) := by decide +kernel
theorem dX8_hash_20 : decode cX8_hash 20 = .ok (.bipush 31, 2) := by decide +kernel
theorem dX8_hash_22 : decode cX8_hash 22 = .ok (.iload_n 1, 1) := by decide +kernel
theorem dX8_hash_23 : decode cX8_hash 23 = .ok (.imul, 1) := by decide +kernel
theorem dX8_hash_24 : decode cX8_hash 24 = .ok (.aload_n 0, 1) := by decide +kernel
theorem dX8_hash_25 : decode cX8_hash 25 = .ok (.getfield 7, 3) := by decide +kernel
theorem dX8_hash_28 : decode cX8_hash 28 = .ok (.iload_n 2, 1) := by decide +kernel
theorem dX8_hash_29 : decode cX8_hash 29 = .ok (.iaload, 1) := by decide +kernel
theorem dX8_hash_30 : decode cX8_hash 30 = .ok (.iadd, 1) := by decide +kernel
theorem dX8_hash_31 : decode cX8_hash 31 = .ok (.istore_n 1, 1) := by decide +kernel
theorem dX8_hash_32 : decode cX8_hash 32 = .ok (.iinc 2 1, 3) := by decide +kernel
theorem dX8_hash_35 : decode cX8_hash 35 = .ok (.goto (-23), 3) := by decide +kernel
theorem dX8_hash_38 : decode cX8_hash 38 = .ok (.iconst 0, 1) := by decide +kernel
theorem dX8_hash_39 : decode cX8_hash 39 = .ok (.istore_n 2, 1) := by decide +kernel
theorem dX8_hash_40 : decode cX8_hash 40 = .ok (.iload_n 2, 1) := by decide +kernel
theorem dX8_hash_41 : decode cX8_hash 41 = .ok (.aload_n 0, 1) := by decide +kernel
theorem dX8_hash_42 : decode cX8_hash 42 = .ok (.getfield 122, 3) := by decide +kernel
theorem dX8_hash_45 : decode cX8_hash 45 = .ok (.if_icmp .ge 21, 3) := by decide +kernel
theorem dX8_hash_48 : decode cX8_hash 48 = .ok (.bipush 31, 2) := by decide +kernel
theorem dX8_hash_50 : decode cX8_hash 50 = .ok (.iload_n 1, 1) := by decide +kernel
theorem dX8_hash_51 : decode cX8_hash 51 = .ok (.imul, 1) := by decide +kernel
theorem dX8_hash_52 : decode cX8_hash 52 = .ok (.aload_n 0, 1) := by decide +kernel
theorem dX8_hash_53 : decode cX8_hash 53 = .ok (.getfield 13, 3) := by decide +kernel
theorem dX8_hash_56 : decode cX8_hash 56 = .ok (.iload_n 2, 1) := by decide +kernel
theorem dX8_hash_57 : decode cX8_hash 57 = .ok (.iaload, 1) := by decide +kernel
theorem dX8_hash_58 : decode cX8_hash 58 = .ok (.iadd, 1) := by decide +kernel
theorem dX8_hash_59 : decode cX8_hash 59 = .ok (.istore_n 1, 1) := by decide +kernel
theorem dX8_hash_60 : decode cX8_hash 60 = .ok (.iinc 2 1, 3) := by decide +kernel
theorem dX8_hash_63 : decode cX8_hash 63 = .ok (.goto (-23), 3) := by decide +kernel
theorem dX8_hash_66 : decode cX8_hash 66 = .ok (.iconst 0, 1) := by decide +kernel
theorem dX8_hash_67 : decode cX8_hash 67 = .ok (.istore_n 2, 1) := by decide +kernel
theorem dX8_hash_68 : decode cX8_hash 68 = .ok (.iload_n 2, 1) := by decide +kernel
theorem dX8_hash_69 : decode cX8_hash 69 = .ok (.aload_n 0, 1) := by decide +kernel
theorem dX8_hash_70 : decode cX8_hash 70 = .ok (.getfield 119, 3) := by decide +kernel
theorem dX8_hash_73 : decode cX8_hash 73 = .ok (.if_icmp .ge 31, 3) := by decide +kernel
theorem dX8_hash_76 : decode cX8_hash 76 = .ok (.bipush 31, 2) := by decide +kernel
theorem dX8_hash_78 : decode cX8_hash 78 = .ok (.bipush 31, 2) := by decide +kernel
theorem dX8_hash_80 : decode cX8_hash 80 = .ok (.iload_n 1, 1) := by decide +kernel
theorem dX8_hash_81 : decode cX8_hash 81 = .ok (.imul, 1) := by decide +kernel
theorem dX8_hash_82 : decode cX8_hash 82 = .ok (.aload_n 0, 1) := by decide +kernel
theorem dX8_hash_83 : decode cX8_hash 83 = .ok (.getfield 16, 3) := by decide +kernel
theorem dX8_hash_86 : decode cX8_hash 86 = .ok (.iload_n 2, 1) := by decide +kernel
theorem dX8_hash_87 : decode cX8_hash 87 = .ok (.iaload, 1) := by decide +kernel
theorem dX8_hash_88 : decode cX8_hash 88 = .ok (.iadd, 1) := by decide +kernel
theorem dX8_hash_89 : decode cX8_hash 89 = .ok (.imul, 1) := by decide +kernel
theorem dX8_hash_90 : decode cX8_hash 90 = .ok (.aload_n 0, 1) := by decide +kernel
theorem dX8_hash_91 : decode cX8_hash 91 = .ok (.getfield 19, 3) := by decide +kernel
theorem dX8_hash_94 : decode cX8_hash 94 = .ok (.iload_n 2, 1) := by decide +kernel
theorem dX8_hash_95 : decode cX8_hash 95 = .ok (.iaload, 1) := by decide +kernel
theorem dX8_hash_96 : decode cX8_hash 96 = .ok (.iadd, 1) := by decide +kernel
theorem dX8_hash_97 : decode cX8_hash 97 = .ok (.istore_n 1, 1) := by decide +kernel
theorem dX8_hash_98 : decode cX8_hash 98 = .ok (.iinc 2 1, 3) := by decide +kernel
theorem dX8_hash_101 : decode cX8_hash 101 = .ok (.goto (-33), 3) := by decide +kernel
theorem dX8_hash_104 : decode cX8_hash 104 = .ok (.iload_n 1, 1) := by decide +kernel
theorem dX8_hash_105 : decode cX8_hash 105 = .ok (.ireturn, 1) := by decide +kernel
theorem dJ9_max_7cf53_0 : decode cJ9_max_7cf53 0 = .ok (.iload_n 0, 1) := by decide +kernel
theorem dJ9_max_7cf53_1 : decode cJ9_max_7cf53 1 = .ok (.iload_n 1, 1) := by decide +kernel
theorem dJ9_max_7cf53_2 : decode cJ9_max_7cf53 2 = .ok (.if_icmp .lt 7, 3) := by decide +kernel
theorem dJ9_max_7cf53_5 : decode cJ9_max_7cf53 5 = .ok (.iload_n 0, 1) := by decide +kernel
theorem dJ9_max_7cf53_6 : decode cJ9_max_7cf53 6 = .ok (.goto 4, 3) := by decide +kernel
theorem dJ9_max_7cf53_9 : decode cJ9_max_7cf53 9 = .ok (.iload_n 1, 1) := by decide +kernel
theorem dJ9_max_7cf53_10 : decode cJ9_max_7cf53 10 = .ok (.ireturn, 1) := by decide +kernel
theorem dJ9_min_7cf53_0 : decode cJ9_min_7cf53 0 = .ok (.iload_n 0, 1) := by decide +kernel
theorem dJ9_min_7cf53_1 : decode cJ9_min_7cf53 1 = .ok (.iload_n 1, 1) := by decide +kernel
theorem dJ9_min_7cf53_2 : decode cJ9_min_7cf53 2 = .ok (.if_icmp .gt 7, 3) := by decide +kernel
theorem dJ9_min_7cf53_5 : decode cJ9_min_7cf53 5 = .ok (.iload_n 0, 1) := by decide +kernel
theorem dJ9_min_7cf53_6 : decode cJ9_min_7cf53 6 = .ok (.goto 4, 3) := by decide +kernel
theorem dJ9_min_7cf53_9 : decode cJ9_min_7cf53 9 = .ok (.iload_n 1, 1) := by decide +kernel
theorem dJ9_min_7cf53_10 : decode cJ9_min_7cf53 10 = .ok (.ireturn, 1) := by decide +kernel
theorem dL_cell_0 : decode cL_cell 0 = .ok (.iload_n 1, 1) := by decide +kernel
theorem dL_cell_1 : decode cL_cell 1 = .ok (.aload_n 0, 1) := by decide +kernel
theorem dL_cell_2 : decode cL_cell 2 = .ok (.arraylength, 1) := by decide +kernel
theorem dL_cell_3 : decode cL_cell 3 = .ok (.if_icmp .ge 9, 3) := by decide +kernel
theorem dL_cell_6 : decode cL_cell 6 = .ok (.aload_n 0, 1) := by decide +kernel
theorem dL_cell_7 : decode cL_cell 7 = .ok (.iload_n 1, 1) := by decide +kernel
theorem dL_cell_8 : decode cL_cell 8 = .ok (.iaload, 1) := by decide +kernel
theorem dL_cell_9 : decode cL_cell 9 = .ok (.goto 4, 3) := by decide +kernel
theorem dL_cell_12 : decode cL_cell 12 = .ok (.iconst 0, 1) := by decide +kernel
theorem dL_cell_13 : decode cL_cell 13 = .ok (.ireturn, 1) := by decide +kernel
theorem dL_pop_0 : decode cL_pop 0 = .ok (.aload_n 1, 1) := by decide +kernel
theorem dL_pop_1 : decode cL_pop 1 = .ok (.iconst 0, 1) := by decide +kernel
theorem dL_pop_2 : decode cL_pop 2 = .ok (.aload_n 0, 1) := by decide +kernel
theorem dL_pop_3 : decode cL_pop 3 = .ok (.invokevirtual 7, 3) := by decide +kernel
theorem dL_pop_6 : decode cL_pop 6 = .ok (.i2l, 1) := by decide +kernel
theorem dL_pop_7 : decode cL_pop 7 = .ok (.lastore, 1) := by decide +kernel
theorem dL_pop_8 : decode cL_pop 8 = .ok (.goto 6, 3) := by decide +kernel
theorem dL_pop_11 : decode cL_pop 11 = .ok (.astore_n 2, 1) := by decide +kernel
theorem dL_pop_12 : decode cL_pop 12 = .ok (.iconst 1, 1) := by decide +kernel
theorem dL_pop_13 : decode cL_pop 13 = .ok (.ireturn, 1) := by decide +kernel
theorem dL_pop_14 : decode cL_pop 14 = .ok (.iconst 0, 1) := by decide +kernel
theorem dL_pop_15 : decode cL_pop 15 = .ok (.ireturn, 1) := by decide +kernel
theorem dL_law_0 : decode cL_law 0 = .ok (.new 8, 3) := by decide +kernel
theorem dL_law_3 : decode cL_law 3 = .ok (.dup, 1) := by decide +kernel
theorem dL_law_4 : decode cL_law 4 = .ok (.aload_n 0, 1) := by decide +kernel
theorem dL_law_5 : decode cL_law 5 = .ok (.iconst 0, 1) := by decide +kernel
theorem dL_law_6 : decode cL_law 6 = .ok (.invokestatic 15, 3) := by decide +kernel
theorem dL_law_9 : decode cL_law 9 = .ok (.aload_n 0, 1) := by decide +kernel
theorem dL_law_10 : decode cL_law 10 = .ok (.iconst 1, 1) := by decide +kernel
theorem dL_law_11 : decode cL_law 11 = .ok (.invokestatic 15, 3) := by decide +kernel
theorem dL_law_14 : decode cL_law 14 = .ok (.aload_n 0, 1) := by decide +kernel
theorem dL_law_15 : decode cL_law 15 = .ok (.iconst 2, 1) := by decide +kernel
theorem dL_law_16 : decode cL_law 16 = .ok (.invokestatic 15, 3) := by decide +kernel
theorem dL_law_19 : decode cL_law 19 = .ok (.invokespecial 21, 3) := by decide +kernel
theorem dL_law_22 : decode cL_law 22 = .ok (.astore_n 1, 1) := by decide +kernel
theorem dL_law_23 : decode cL_law 23 = .ok (.new 24, 3) := by decide +kernel
theorem dL_law_26 : decode cL_law 26 = .ok (.dup, 1) := by decide +kernel
theorem dL_law_27 : decode cL_law 27 = .ok (.aload_n 0, 1) := by decide +kernel
theorem dL_law_28 : decode cL_law 28 = .ok (.iconst 0, 1) := by decide +kernel
theorem dL_law_29 : decode cL_law 29 = .ok (.invokestatic 15, 3) := by decide +kernel
theorem dL_law_32 : decode cL_law 32 = .ok (.aload_n 0, 1) := by decide +kernel
theorem dL_law_33 : decode cL_law 33 = .ok (.iconst 1, 1) := by decide +kernel
theorem dL_law_34 : decode cL_law 34 = .ok (.invokestatic 15, 3) := by decide +kernel
theorem dL_law_37 : decode cL_law 37 = .ok (.aload_n 0, 1) := by decide +kernel
theorem dL_law_38 : decode cL_law 38 = .ok (.iconst 2, 1) := by decide +kernel
theorem dL_law_39 : decode cL_law 39 = .ok (.invokestatic 15, 3) := by decide +kernel
theorem dL_law_42 : decode cL_law 42 = .ok (.invokespecial 26, 3) := by decide +kernel
theorem dL_law_45 : decode cL_law 45 = .ok (.astore_n 2, 1) := by decide +kernel
theorem dL_law_46 : decode cL_law 46 = .ok (.iconst 1, 1) := by decide +kernel
theorem dL_law_47 : decode cL_law 47 = .ok (.newarray .long, 2) := by decide +kernel
theorem dL_law_49 : decode cL_law 49 = .ok (.astore_n 3, 1) := by decide +kernel
theorem dL_law_50 : decode cL_law 50 = .ok (.iconst 3, 1) := by decide +kernel
theorem dL_law_51 : decode cL_law 51 = .ok (.istore 4, 2) := by decide +kernel
theorem dL_law_53 : decode cL_law 53 = .ok (.iload 4, 2) := by decide +kernel
theorem dL_law_55 : decode cL_law 55 = .ok (.aload_n 0, 1) := by decide +kernel
theorem dL_law_56 : decode cL_law 56 = .ok (.arraylength, 1) := by decide +kernel
theorem dL_law_57 : decode cL_law 57 = .ok (.iconst 4, 1) := by decide +kernel
theorem dL_law_58 : decode cL_law 58 = .ok (.isub, 1) := by decide +kernel
theorem dL_law_59 : decode cL_law 59 = .ok (.if_icmp .gt 667, 3) := by decide +kernel
theorem dL_law_62 : decode cL_law 62 = .ok (.aload_n 0, 1) := by decide +kernel
theorem dL_law_63 : decode cL_law 63 = .ok (.iload 4, 2) := by decide +kernel
theorem dL_law_65 : decode cL_law 65 = .ok (.iaload, 1) := by decide +kernel
theorem dL_law_66 : decode cL_law 66 = .ok (.bipush 31, 2) := by decide +kernel
theorem dL_law_68 : decode cL_law 68 = .ok (.iand, 1) := by decide +kernel
theorem dL_law_69 : decode cL_law 69 = .ok (.tableswitch 651 0 20 #[99, 124, 161, 186, 211, 255, 292, 317, 354, 367, 380, 405, 418, 431, 444, 469, 506, 531, 600, 613, 638], 99) := by decide +kernel
theorem dL_law_168 : decode cL_law 168 = .ok (.aload_n 1, 1) := by decide +kernel
theorem dL_law_169 : decode cL_law 169 = .ok (.aload_n 0, 1) := by decide +kernel
theorem dL_law_170 : decode cL_law 170 = .ok (.iload 4, 2) := by decide +kernel
theorem dL_law_172 : decode cL_law 172 = .ok (.iconst 1, 1) := by decide +kernel
theorem dL_law_173 : decode cL_law 173 = .ok (.iadd, 1) := by decide +kernel
theorem dL_law_174 : decode cL_law 174 = .ok (.iaload, 1) := by decide +kernel
theorem dL_law_175 : decode cL_law 175 = .ok (.invokevirtual 27, 3) := by decide +kernel
theorem dL_law_178 : decode cL_law 178 = .ok (.aload_n 2, 1) := by decide +kernel
theorem dL_law_179 : decode cL_law 179 = .ok (.aload_n 0, 1) := by decide +kernel
theorem dL_law_180 : decode cL_law 180 = .ok (.iload 4, 2) := by decide +kernel
theorem dL_law_182 : decode cL_law 182 = .ok (.iconst 1, 1) := by decide +kernel
theorem dL_law_183 : decode cL_law 183 = .ok (.iadd, 1) := by decide +kernel
theorem dL_law_184 : decode cL_law 184 = .ok (.iaload, 1) := by decide +kernel
theorem dL_law_185 : decode cL_law 185 = .ok (.invokevirtual 31, 3) := by decide +kernel
theorem dL_law_188 : decode cL_law 188 = .ok (.if_icmp .eq 532, 3) := by decide +kernel
theorem dL_law_191 : decode cL_law 191 = .ok (.iconst 0, 1) := by decide +kernel
theorem dL_law_192 : decode cL_law 192 = .ok (.ireturn, 1) := by decide +kernel
theorem dL_law_193 : decode cL_law 193 = .ok (.aload_n 1, 1) := by decide +kernel
theorem dL_law_194 : decode cL_law 194 = .ok (.aload_n 0, 1) := by decide +kernel
theorem dL_law_195 : decode cL_law 195 = .ok (.iload 4, 2) := by decide +kernel
theorem dL_law_197 : decode cL_law 197 = .ok (.iconst 1, 1) := by decide +kernel
theorem dL_law_198 : decode cL_law 198 = .ok (.iadd, 1) := by decide +kernel
theorem dL_law_199 : decode cL_law 199 = .ok (.iaload, 1) := by decide +kernel
theorem dL_law_200 : decode cL_law 200 = .ok (.aload_n 0, 1) := by decide +kernel
theorem dL_law_201 : decode cL_law 201 = .ok (.iload 4, 2) := by decide +kernel
theorem dL_law_203 : decode cL_law 203 = .ok (.iconst 2, 1) := by decide +kernel
theorem dL_law_204 : decode cL_law 204 = .ok (.iadd, 1) := by decide +kernel
theorem dL_law_205 : decode cL_law 205 = .ok (.iaload, 1) := by decide +kernel
theorem dL_law_206 : decode cL_law 206 = .ok (.invokevirtual 32, 3) := by decide +kernel
theorem dL_law_209 : decode cL_law 209 = .ok (.aload_n 2, 1) := by decide +kernel
