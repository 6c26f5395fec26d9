theorem dX12_city_155 : decode cX12_city 155 = .ok (.dup2, 1) := by decide +kernel
theorem dX12_city_156 : decode cX12_city 156 = .ok (.iaload, 1) := by decide +kernel
theorem dX12_city_157 : decode cX12_city 157 = .ok (.iconst 1, 1) := by decide +kernel
theorem dX12_city_158 : decode cX12_city 158 = .ok (.iadd, 1) := by decide +kernel
theorem dX12_city_159 : decode cX12_city 159 = .ok (.iastore, 1) := by decide +kernel
theorem dX12_city_160 : decode cX12_city 160 = .ok (.aload_n 0, 1) := by decide +kernel
theorem dX12_city_161 : decode cX12_city 161 = .ok (.getfield 209, 3) := by decide +kernel
theorem dX12_city_164 : decode cX12_city 164 = .ok (.ireturn, 1) := by decide +kernel
theorem dX12_city_165 : decode cX12_city 165 = .ok (.aload_n 0, 1) := by decide +kernel
theorem dX12_city_166 : decode cX12_city 166 = .ok (.invokevirtual 318, 3) := by decide +kernel
theorem dX12_city_169 : decode cX12_city 169 = .ok (.iconst 0, 1) := by decide +kernel
theorem dX12_city_170 : decode cX12_city 170 = .ok (.ireturn, 1) := by decide +kernel
theorem dX12_takeHalf_0 : decode cX12_takeHalf 0 = .ok (.iconst 0, 1) := by decide +kernel
theorem dX12_takeHalf_1 : decode cX12_takeHalf 1 = .ok (.istore_n 1, 1) := by decide +kernel
theorem dX12_takeHalf_2 : decode cX12_takeHalf 2 = .ok (.iload_n 1, 1) := by decide +kernel
theorem dX12_takeHalf_3 : decode cX12_takeHalf 3 = .ok (.aload_n 0, 1) := by decide +kernel
theorem dX12_takeHalf_4 : decode cX12_takeHalf 4 = .ok (.arraylength, 1) := by decide +kernel
theorem dX12_takeHalf_5 : decode cX12_takeHalf 5 = .ok (.iconst 2, 1) := by decide +kernel
theorem dX12_takeHalf_6 : decode cX12_takeHalf 6 = .ok (.idiv, 1) := by decide +kernel
theorem dX12_takeHalf_7 : decode cX12_takeHalf 7 = .ok (.if_icmp .ge 20, 3) := by decide +kernel
theorem dX12_takeHalf_10 : decode cX12_takeHalf 10 = .ok (.aload_n 0, 1) := by decide +kernel
theorem dX12_takeHalf_11 : decode cX12_takeHalf 11 = .ok (.iload_n 1, 1) := by decide +kernel
theorem dX12_takeHalf_12 : decode cX12_takeHalf 12 = .ok (.aload_n 0, 1) := by decide +kernel
theorem dX12_takeHalf_13 : decode cX12_takeHalf 13 = .ok (.aload_n 0, 1) := by decide +kernel
theorem dX12_takeHalf_14 : decode cX12_takeHalf 14 = .ok (.arraylength, 1) := by decide +kernel
theorem dX12_takeHalf_15 : decode cX12_takeHalf 15 = .ok (.iconst 2, 1) := by decide +kernel
theorem dX12_takeHalf_16 : decode cX12_takeHalf 16 = .ok (.idiv, 1) := by decide +kernel
theorem dX12_takeHalf_17 : decode cX12_takeHalf 17 = .ok (.iload_n 1, 1) := by decide +kernel
theorem dX12_takeHalf_18 : decode cX12_takeHalf 18 = .ok (.iadd, 1) := by decide +kernel
theorem dX12_takeHalf_19 : decode cX12_takeHalf 19 = .ok (.iaload, 1) := by decide +kernel
theorem dX12_takeHalf_20 : decode cX12_takeHalf 20 = .ok (.iastore, 1) := by decide +kernel
theorem dX12_takeHalf_21 : decode cX12_takeHalf 21 = .ok (.iinc 1 1, 3) := by decide +kernel
theorem dX12_takeHalf_24 : decode cX12_takeHalf 24 = .ok (.goto (-22), 3) := by decide +kernel
theorem dX12_takeHalf_27 : decode cX12_takeHalf 27 = .ok (.return_, 1) := by decide +kernel
theorem dX12_takeOver_0 : decode cX12_takeOver 0 = .ok (.aload_n 0, 1) := by decide +kernel
theorem dX12_takeOver_1 : decode cX12_takeOver 1 = .ok (.getfield 33, 3) := by decide +kernel
theorem dX12_takeOver_4 : decode cX12_takeOver 4 = .ok (.invokestatic 321, 3) := by decide +kernel
theorem dX12_takeOver_7 : decode cX12_takeOver 7 = .ok (.aload_n 0, 1) := by decide +kernel
theorem dX12_takeOver_8 : decode cX12_takeOver 8 = .ok (.getfield 37, 3) := by decide +kernel
theorem dX12_takeOver_11 : decode cX12_takeOver 11 = .ok (.invokestatic 321, 3) := by decide +kernel
theorem dX12_takeOver_14 : decode cX12_takeOver 14 = .ok (.aload_n 0, 1) := by decide +kernel
theorem dX12_takeOver_15 : decode cX12_takeOver 15 = .ok (.getfield 40, 3) := by decide +kernel
theorem dX12_takeOver_18 : decode cX12_takeOver 18 = .ok (.invokestatic 321, 3) := by decide +kernel
theorem dX12_takeOver_21 : decode cX12_takeOver 21 = .ok (.aload_n 0, 1) := by decide +kernel
theorem dX12_takeOver_22 : decode cX12_takeOver 22 = .ok (.getfield 43, 3) := by decide +kernel
theorem dX12_takeOver_25 : decode cX12_takeOver 25 = .ok (.invokestatic 321, 3) := by decide +kernel
theorem dX12_takeOver_28 : decode cX12_takeOver 28 = .ok (.aload_n 0, 1) := by decide +kernel
theorem dX12_takeOver_29 : decode cX12_takeOver 29 = .ok (.getfield 46, 3) := by decide +kernel
theorem dX12_takeOver_32 : decode cX12_takeOver 32 = .ok (.invokestatic 321, 3) := by decide +kernel
theorem dX12_takeOver_35 : decode cX12_takeOver 35 = .ok (.aload_n 0, 1) := by decide +kernel
theorem dX12_takeOver_36 : decode cX12_takeOver 36 = .ok (.getfield 49, 3) := by decide +kernel
theorem dX12_takeOver_39 : decode cX12_takeOver 39 = .ok (.invokestatic 321, 3) := by decide +kernel
theorem dX12_takeOver_42 : decode cX12_takeOver 42 = .ok (.aload_n 0, 1) := by decide +kernel
theorem dX12_takeOver_43 : decode cX12_takeOver 43 = .ok (.getfield 51, 3) := by decide +kernel
theorem dX12_takeOver_46 : decode cX12_takeOver 46 = .ok (.invokestatic 321, 3) := by decide +kernel
theorem dX12_takeOver_49 : decode cX12_takeOver 49 = .ok (.aload_n 0, 1) := by decide +kernel
theorem dX12_takeOver_50 : decode cX12_takeOver 50 = .ok (.getfield 54, 3) := by decide +kernel
theorem dX12_takeOver_53 : decode cX12_takeOver 53 = .ok (.invokestatic 321, 3) := by decide +kernel
theorem dX12_takeOver_56 : decode cX12_takeOver 56 = .ok (.aload_n 0, 1) := by decide +kernel
theorem dX12_takeOver_57 : decode cX12_takeOver 57 = .ok (.getfield 57, 3) := by decide +kernel
theorem dX12_takeOver_60 : decode cX12_takeOver 60 = .ok (.invokestatic 321, 3) := by decide +kernel
theorem dX12_takeOver_63 : decode cX12_takeOver 63 = .ok (.aload_n 0, 1) := by decide +kernel
theorem dX12_takeOver_64 : decode cX12_takeOver 64 = .ok (.iconst 0, 1) := by decide +kernel
theorem dX12_takeOver_65 : decode cX12_takeOver 65 = .ok (.putfield 325, 3) := by decide +kernel
theorem dX12_takeOver_68 : decode cX12_takeOver 68 = .ok (.aload_n 0, 1) := by decide +kernel
theorem dX12_takeOver_69 : decode cX12_takeOver 69 = .ok (.iconst 0, 1) := by decide +kernel
theorem dX12_takeOver_70 : decode cX12_takeOver 70 = .ok (.putfield 327, 3) := by decide +kernel
theorem dX12_takeOver_73 : decode cX12_takeOver 73 = .ok (.iconst 0, 1) := by decide +kernel
theorem dX12_takeOver_74 : decode cX12_takeOver 74 = .ok (.istore_n 1, 1) := by decide +kernel
theorem dX12_takeOver_75 : decode cX12_takeOver 75 = .ok (.iload_n 1, 1) := by decide +kernel
theorem dX12_takeOver_76 : decode cX12_takeOver 76 = .ok (.bipush 10, 2) := by decide +kernel
theorem dX12_takeOver_78 : decode cX12_takeOver 78 = .ok (.if_icmp .ge 42, 3) := by decide +kernel
theorem dX12_takeOver_81 : decode cX12_takeOver 81 = .ok (.aload_n 0, 1) := by decide +kernel
theorem dX12_takeOver_82 : decode cX12_takeOver 82 = .ok (.getfield 70, 3) := by decide +kernel
theorem dX12_takeOver_85 : decode cX12_takeOver 85 = .ok (.iload_n 1, 1) := by decide +kernel
theorem dX12_takeOver_86 : decode cX12_takeOver 86 = .ok (.iload_n 1, 1) := by decide +kernel
theorem dX12_takeOver_87 : decode cX12_takeOver 87 = .ok (.aload_n 0, 1) := by decide +kernel
theorem dX12_takeOver_88 : decode cX12_takeOver 88 = .ok (.getfield 33, 3) := by decide +kernel
theorem dX12_takeOver_91 : decode cX12_takeOver 91 = .ok (.iconst 2, 1) := by decide +kernel
theorem dX12_takeOver_92 : decode cX12_takeOver 92 = .ok (.iaload, 1) := by decide +kernel
theorem dX12_takeOver_93 : decode cX12_takeOver 93 = .ok (.if_icmp .ge 12, 3) := by decide +kernel
theorem dX12_takeOver_96 : decode cX12_takeOver 96 = .ok (.aload_n 0, 1) := by decide +kernel
theorem dX12_takeOver_97 : decode cX12_takeOver 97 = .ok (.getfield 51, 3) := by decide +kernel
theorem dX12_takeOver_100 : decode cX12_takeOver 100 = .ok (.iload_n 1, 1) := by decide +kernel
theorem dX12_takeOver_101 : decode cX12_takeOver 101 = .ok (.iaload, 1) := by decide +kernel
theorem dX12_takeOver_102 : decode cX12_takeOver 102 = .ok (.goto 4, 3) := by decide +kernel
theorem dX12_takeOver_105 : decode cX12_takeOver 105 = .ok (.iconst 0, 1) := by decide +kernel
theorem dX12_takeOver_106 : decode cX12_takeOver 106 = .ok (.iastore, 1) := by decide +kernel
theorem dX12_takeOver_107 : decode cX12_takeOver 107 = .ok (.aload_n 0, 1) := by decide +kernel
theorem dX12_takeOver_108 : decode cX12_takeOver 108 = .ok (.getfield 72, 3) := by decide +kernel
theorem dX12_takeOver_111 : decode cX12_takeOver 111 = .ok (.iload_n 1, 1) := by decide +kernel
theorem dX12_takeOver_112 : decode cX12_takeOver 112 = .ok (.iconst 0, 1) := by decide +kernel
theorem dX12_takeOver_113 : decode cX12_takeOver 113 = .ok (.iastore, 1) := by decide +kernel
theorem dX12_takeOver_114 : decode cX12_takeOver 114 = .ok (.iinc 1 1, 3) := by decide +kernel
theorem dX12_takeOver_117 : decode cX12_takeOver 117 = .ok (.goto (-42), 3) := by decide +kernel
theorem dX12_takeOver_120 : decode cX12_takeOver 120 = .ok (.iconst 0, 1) := by decide +kernel
theorem dX12_takeOver_121 : decode cX12_takeOver 121 = .ok (.istore_n 1, 1) := by decide +kernel
theorem dX12_takeOver_122 : decode cX12_takeOver 122 = .ok (.iload_n 1, 1) := by decide +kernel
theorem dX12_takeOver_123 : decode cX12_takeOver 123 = .ok (.iconst 5, 1) := by decide +kernel
theorem dX12_takeOver_124 : decode cX12_takeOver 124 = .ok (.if_icmp .ge 54, 3) := by decide +kernel
theorem dX12_takeOver_127 : decode cX12_takeOver 127 = .ok (.aload_n 0, 1) := by decide +kernel
theorem dX12_takeOver_128 : decode cX12_takeOver 128 = .ok (.getfield 75, 3) := by decide +kernel
theorem dX12_takeOver_131 : decode cX12_takeOver 131 = .ok (.iload_n 1, 1) := by decide +kernel
theorem dX12_takeOver_132 : decode cX12_takeOver 132 = .ok (.aload_n 0, 1) := by decide +kernel
theorem dX12_takeOver_133 : decode cX12_takeOver 133 = .ok (.getfield 40, 3) := by decide +kernel
theorem dX12_takeOver_136 : decode cX12_takeOver 136 = .ok (.iload_n 1, 1) := by decide +kernel
theorem dX12_takeOver_137 : decode cX12_takeOver 137 = .ok (.iaload, 1) := by decide +kernel
theorem dX12_takeOver_138 : decode cX12_takeOver 138 = .ok (.iastore, 1) := by decide +kernel
theorem dX12_takeOver_139 : decode cX12_takeOver 139 = .ok (.aload_n 0, 1) := by decide +kernel
theorem dX12_takeOver_140 : decode cX12_takeOver 140 = .ok (.getfield 78, 3) := by decide +kernel
theorem dX12_takeOver_143 : decode cX12_takeOver 143 = .ok (.iload_n 1, 1) := by decide +kernel
theorem dX12_takeOver_144 : decode cX12_takeOver 144 = .ok (.iconst 0, 1) := by decide +kernel
theorem dX12_takeOver_145 : decode cX12_takeOver 145 = .ok (.iastore, 1) := by decide +kernel
theorem dX12_takeOver_146 : decode cX12_takeOver 146 = .ok (.iconst 0, 1) := by decide +kernel
theorem dX12_takeOver_147 : decode cX12_takeOver 147 = .ok (.istore_n 2, 1) := by decide +kernel
theorem dX12_takeOver_148 : decode cX12_takeOver 148 = .ok (.iload_n 2, 1) := by decide +kernel
theorem dX12_takeOver_149 : decode cX12_takeOver 149 = .ok (.bipush 10, 2) := by decide +kernel
theorem dX12_takeOver_151 : decode cX12_takeOver 151 = .ok (.if_icmp .ge 21, 3) := by decide +kernel
theorem dX12_takeOver_154 : decode cX12_takeOver 154 = .ok (.aload_n 0, 1) := by decide +kernel
theorem dX12_takeOver_155 : decode cX12_takeOver 155 = .ok (.getfield 81, 3) := by decide +kernel
theorem dX12_takeOver_158 : decode cX12_takeOver 158 = .ok (.bipush 10, 2) := by decide +kernel
theorem dX12_takeOver_160 : decode cX12_takeOver 160 = .ok (.iload_n 1, 1) := by decide +kernel
theorem dX12_takeOver_161 : decode cX12_takeOver 161 = .ok (.imul, 1) := by decide +kernel
theorem dX12_takeOver_162 : decode cX12_takeOver 162 = .ok (.iload_n 2, 1) := by decide +kernel
theorem dX12_takeOver_163 : decode cX12_takeOver 163 = .ok (.iadd, 1) := by decide +kernel
theorem dX12_takeOver_164 : decode cX12_takeOver 164 = .ok (.iconst (-1), 1) := by decide +kernel
theorem dX12_takeOver_165 : decode cX12_takeOver 165 = .ok (.iastore, 1) := by decide +kernel
theorem dX12_takeOver_166 : decode cX12_takeOver 166 = .ok (.iinc 2 1, 3) := by decide +kernel
theorem dX12_takeOver_169 : decode cX12_takeOver 169 = .ok (.goto (-21), 3) := by decide +kernel
theorem dX12_takeOver_172 : decode cX12_takeOver 172 = .ok (.iinc 1 1, 3) := by decide +kernel
theorem dX12_takeOver_175 : decode cX12_takeOver 175 = .ok (.goto (-53), 3) := by decide +kernel
theorem dX12_takeOver_178 : decode cX12_takeOver 178 = .ok (.iconst 0, 1) := by decide +kernel
theorem dX12_takeOver_179 : decode cX12_takeOver 179 = .ok (.istore_n 1, 1) := by decide +kernel
theorem dX12_takeOver_180 : decode cX12_takeOver 180 = .ok (.iload_n 1, 1) := by decide +kernel
theorem dX12_takeOver_181 : decode cX12_takeOver 181 = .ok (.bipush 6, 2) := by decide +kernel
theorem dX12_takeOver_183 : decode cX12_takeOver 183 = .ok (.if_icmp .ge 21, 3) := by decide +kernel
theorem dX12_takeOver_186 : decode cX12_takeOver 186 = .ok (.aload_n 0, 1) := by decide +kernel
theorem dX12_takeOver_187 : decode cX12_takeOver 187 = .ok (.getfield 84, 3) := by decide +kernel
theorem dX12_takeOver_190 : decode cX12_takeOver 190 = .ok (.iload_n 1, 1) := by decide +kernel
theorem dX12_takeOver_191 : decode cX12_takeOver 191 = .ok (.aload_n 0, 1) := by decide +kernel
theorem dX12_takeOver_192 : decode cX12_takeOver 192 = .ok (.getfield 37, 3) := by decide +kernel
theorem dX12_takeOver_195 : decode cX12_takeOver 195 = .ok (.iload_n 1, 1) := by decide +kernel
theorem dX12_takeOver_196 : decode cX12_takeOver 196 = .ok (.iaload, 1) := by decide +kernel
theorem dX12_takeOver_197 : decode cX12_takeOver 197 = .ok (.iastore, 1) := by decide +kernel
theorem dX12_takeOver_198 : decode cX12_takeOver 198 = .ok (.iinc 1 1, 3) := by decide +kernel
theorem dX12_takeOver_201 : decode cX12_takeOver 201 = .ok (.goto (-21), 3) := by decide +kernel
theorem dX12_takeOver_204 : decode cX12_takeOver 204 = .ok (.aload_n 0, 1) := by decide +kernel
theorem dX12_takeOver_205 : decode cX12_takeOver 205 = .ok (.iconst 0, 1) := by decide +kernel
theorem dX12_takeOver_206 : decode cX12_takeOver 206 = .ok (.putfield 330, 3) := by decide +kernel
theorem dX12_takeOver_209 : decode cX12_takeOver 209 = .ok (.aload_n 0, 1) := by decide +kernel
theorem dX12_takeOver_210 : decode cX12_takeOver 210 = .ok (.iconst 0, 1) := by decide +kernel
theorem dX12_takeOver_211 : decode cX12_takeOver 211 = .ok (.putfield 333, 3) := by decide +kernel
theorem dX12_takeOver_214 : decode cX12_takeOver 214 = .ok (.aload_n 0, 1) := by decide +kernel
theorem dX12_takeOver_215 : decode cX12_takeOver 215 = .ok (.iconst 0, 1) := by decide +kernel
theorem dX12_takeOver_216 : decode cX12_takeOver 216 = .ok (.putfield 336, 3) := by decide +kernel
theorem dX12_takeOver_219 : decode cX12_takeOver 219 = .ok (.return_, 1) := by decide +kernel
theorem dX12_fault_0 : decode cX12_fault 0 = .ok (.aload_n 0, 1) := by decide +kernel
theorem dX12_fault_1 : decode cX12_fault 1 = .ok (.iconst 0, 1) := by decide +kernel
theorem dX12_fault_2 : decode cX12_fault 2 = .ok (.putfield 158, 3) := by decide +kernel
theorem dX12_fault_5 : decode cX12_fault 5 = .ok (.aload_n 0, 1) := by decide +kernel
theorem dX12_fault_6 : decode cX12_fault 6 = .ok (.getfield 66, 3) := by decide +kernel
theorem dX12_fault_9 : decode cX12_fault 9 = .ok (.ireturn, 1) := by decide +kernel
theorem dX12_pack_0 : decode cX12_pack 0 = .ok (.aload_n 1, 1) := by decide +kernel
theorem dX12_pack_1 : decode cX12_pack 1 = .ok (.iload_n 2, 1) := by decide +kernel
theorem dX12_pack_2 : decode cX12_pack 2 = .ok (.aload_n 0, 1) := by decide +kernel
theorem dX12_pack_3 : decode cX12_pack 3 = .ok (.getfield 325, 3) := by decide +kernel
theorem dX12_pack_6 : decode cX12_pack 6 = .ok (.iastore, 1) := by decide +kernel
theorem dX12_pack_7 : decode cX12_pack 7 = .ok (.aload_n 1, 1) := by decide +kernel
theorem dX12_pack_8 : decode cX12_pack 8 = .ok (.iload_n 2, 1) := by decide +kernel
theorem dX12_pack_9 : decode cX12_pack 9 = .ok (.iconst 1, 1) := by decide +kernel
theorem dX12_pack_10 : decode cX12_pack 10 = .ok (.iadd, 1) := by decide +kernel
theorem dX12_pack_11 : decode cX12_pack 11 = .ok (.aload_n 0, 1) := by decide +kernel
theorem dX12_pack_12 : decode cX12_pack 12 = .ok (.getfield 327, 3) := by decide +kernel
theorem dX12_pack_15 : decode cX12_pack 15 = .ok (.iastore, 1) := by decide +kernel
theorem dX12_pack_16 : decode cX12_pack 16 = .ok (.iload_n 2, 1) := by decide +kernel
theorem dX12_pack_17 : decode cX12_pack 17 = .ok (.iconst 2, 1) := by decide +kernel
theorem dX12_pack_18 : decode cX12_pack 18 = .ok (.iadd, 1) := by decide +kernel
theorem dX12_pack_19 : decode cX12_pack 19 = .ok (.istore_n 3, 1) := by decide +kernel
theorem dX12_pack_20 : decode cX12_pack 20 = .ok (.iconst 0, 1) := by decide +kernel
theorem dX12_pack_21 : decode cX12_pack 21 = .ok (.istore 4, 2) := by decide +kernel
theorem dX12_pack_23 : decode cX12_pack 23 = .ok (.iload 4, 2) := by decide +kernel
theorem dX12_pack_25 : decode cX12_pack 25 = .ok (.bipush 10, 2) := by decide +kernel
theorem dX12_pack_27 : decode cX12_pack 27 = .ok (.if_icmp .ge 38, 3) := by decide +kernel
theorem dX12_pack_30 : decode cX12_pack 30 = .ok (.aload_n 1, 1) := by decide +kernel
theorem dX12_pack_31 : decode cX12_pack 31 = .ok (.iload_n 3, 1) := by decide +kernel
theorem dX12_pack_32 : decode cX12_pack 32 = .ok (.iload 4, 2) := by decide +kernel
theorem dX12_pack_34 : decode cX12_pack 34 = .ok (.iadd, 1) := by decide +kernel
theorem dX12_pack_35 : decode cX12_pack 35 = .ok (.aload_n 0, 1) := by decide +kernel
theorem dX12_pack_36 : decode cX12_pack 36 = .ok (.getfield 70, 3) := by decide +kernel
theorem dX12_pack_39 : decode cX12_pack 39 = .ok (.iload 4, 2) := by decide +kernel
theorem dX12_pack_41 : decode cX12_pack 41 = .ok (.iaload, 1) := by decide +kernel
theorem dX12_pack_42 : decode cX12_pack 42 = .ok (.iastore, 1) := by decide +kernel
theorem dX12_pack_43 : decode cX12_pack 43 = .ok (.aload_n 1, 1) := by decide +kernel
theorem dX12_pack_44 : decode cX12_pack 44 = .ok (.iload_n 3, 1) := by decide +kernel
theorem dX12_pack_45 : decode cX12_pack 45 = .ok (.bipush 10, 2) := by decide +kernel
theorem dX12_pack_47 : decode cX12_pack 47 = .ok (.iadd, 1) := by decide +kernel
theorem dX12_pack_48 : decode cX12_pack 48 = .ok (.iload 4, 2) := by decide +kernel
theorem dX12_pack_50 : decode cX12_pack 50 = .ok (.iadd, 1) := by decide +kernel
theorem dX12_pack_51 : decode cX12_pack 51 = .ok (.aload_n 0, 1) := by decide +kernel
theorem dX12_pack_52 : decode cX12_pack 52 = .ok (.getfield 72, 3) := by decide +kernel
theorem dX12_pack_55 : decode cX12_pack 55 = .ok (.iload 4, 2) := by decide +kernel
theorem dX12_pack_57 : decode cX12_pack 57 = .ok (.iaload, 1) := by decide +kernel
theorem dX12_pack_58 : decode cX12_pack 58 = .ok (.iastore, 1) := by decide +kernel
theorem dX12_pack_59 : decode cX12_pack 59 = .ok (.iinc 4 1, 3) := by decide +kernel
theorem dX12_pack_62 : decode cX12_pack 62 = .ok (.goto (-39), 3) := by decide +kernel
theorem dX12_pack_65 : decode cX12_pack 65 = .ok (.iinc 3 20, 3) := by decide +kernel
theorem dX12_pack_68 : decode cX12_pack 68 = .ok (.iconst 0, 1) := by decide +kernel
theorem dX12_pack_69 : decode cX12_pack 69 = .ok (.istore 4, 2) := by decide +kernel
theorem dX12_pack_71 : decode cX12_pack 71 = .ok (.iload 4, 2) := by decide +kernel
theorem dX12_pack_73 : decode cX12_pack 73 = .ok (.iconst 5, 1) := by decide +kernel
theorem dX12_pack_74 : decode cX12_pack 74 = .ok (.if_icmp .ge 37, 3) := by decide +kernel
theorem dX12_pack_77 : decode cX12_pack 77 = .ok (.aload_n 1, 1) := by decide +kernel
theorem dX12_pack_78 : decode cX12_pack 78 = .ok (.iload_n 3, 1) := by decide +kernel
theorem dX12_pack_79 : decode cX12_pack 79 = .ok (.iload 4, 2) := by decide +kernel
theorem dX12_pack_81 : decode cX12_pack 81 = .ok (.iadd, 1) := by decide +kernel
theorem dX12_pack_82 : decode cX12_pack 82 = .ok (.aload_n 0, 1) := by decide +kernel
theorem dX12_pack_83 : decode cX12_pack 83 = .ok (.getfield 75, 3) := by decide +kernel
theorem dX12_pack_86 : decode cX12_pack 86 = .ok (.iload 4, 2) := by decide +kernel
theorem dX12_pack_88 : decode cX12_pack 88 = .ok (.iaload, 1) := by decide +kernel
theorem dX12_pack_89 : decode cX12_pack 89 = .ok (.iastore, 1) := by decide +kernel
theorem dX12_pack_90 : decode cX12_pack 90 = .ok (.aload_n 1, 1) := by decide +kernel
theorem dX12_pack_91 : decode cX12_pack 91 = .ok (.iload_n 3, 1) := by decide +kernel
theorem dX12_pack_92 : decode cX12_pack 92 = .ok (.iconst 5, 1) := by decide +kernel
theorem dX12_pack_93 : decode cX12_pack 93 = .ok (.iadd, 1) := by decide +kernel
theorem dX12_pack_94 : decode cX12_pack 94 = .ok (.iload 4, 2) := by decide +kernel
theorem dX12_pack_96 : decode cX12_pack 96 = .ok (.iadd, 1) := by decide +kernel
theorem dX12_pack_97 : decode cX12_pack 97 = .ok (.aload_n 0, 1) := by decide +kernel
theorem dX12_pack_98 : decode cX12_pack 98 = .ok (.getfield 78, 3) := by decide +kernel
theorem dX12_pack_101 : decode cX12_pack 101 = .ok (.iload 4, 2) := by decide +kernel
theorem dX12_pack_103 : decode cX12_pack 103 = .ok (.iaload, 1) := by decide +kernel
theorem dX12_pack_104 : decode cX12_pack 104 = .ok (.iastore, 1) := by decide +kernel
theorem dX12_pack_105 : decode cX12_pack 105 = .ok (.iinc 4 1, 3) := by decide +kernel
theorem dX12_pack_108 : decode cX12_pack 108 = .ok (.goto (-37), 3) := by decide +kernel
theorem dX12_pack_111 : decode cX12_pack 111 = .ok (.iinc 3 10, 3) := by decide +kernel
theorem dX12_pack_114 : decode cX12_pack 114 = .ok (.iconst 0, 1) := by decide +kernel
theorem dX12_pack_115 : decode cX12_pack 115 = .ok (.istore 4, 2) := by decide +kernel
theorem dX12_pack_117 : decode cX12_pack 117 = .ok (.iload 4, 2) := by decide +kernel
theorem dX12_pack_119 : decode cX12_pack 119 = .ok (.aload_n 0, 1) := by decide +kernel
theorem dX12_pack_120 : decode cX12_pack 120 = .ok (.getfield 81, 3) := by decide +kernel
theorem dX12_pack_123 : decode cX12_pack 123 = .ok (.arraylength, 1) := by decide +kernel
theorem dX12_pack_124 : decode cX12_pack 124 = .ok (.if_icmp .ge 22, 3) := by decide +kernel
theorem dX12_pack_127 : decode cX12_pack 127 = .ok (.aload_n 1, 1) := by decide +kernel
theorem dX12_pack_128 : decode cX12_pack 128 = .ok (.iload_n 3, 1) := by decide +kernel
theorem dX12_pack_129 : decode cX12_pack 129 = .ok (.iload 4, 2) := by decide +kernel
theorem dX12_pack_131 : decode cX12_pack 131 = .ok (.iadd, 1) := by decide +kernel
theorem dX12_pack_132 : decode cX12_pack 132 = .ok (.aload_n 0, 1) := by decide +kernel
theorem dX12_pack_133 : decode cX12_pack 133 = .ok (.getfield 81, 3) := by decide +kernel
theorem dX12_pack_136 : decode cX12_pack 136 = .ok (.iload 4, 2) := by decide +kernel
theorem dX12_pack_138 : decode cX12_pack 138 = .ok (.iaload, 1) := by decide +kernel
theorem dX12_pack_139 : decode cX12_pack 139 = .ok (.iastore, 1) := by decide +kernel
theorem dX12_pack_140 : decode cX12_pack 140 = .ok (.iinc 4 1, 3) := by decide +kernel
theorem dX12_pack_143 : decode cX12_pack 143 = .ok (.goto (-26), 3) := by decide +kernel
theorem dX12_pack_146 : decode cX12_pack 146 = .ok (.iload_n 3, 1) := by decide +kernel
theorem dX12_pack_147 : decode cX12_pack 147 = .ok (.aload_n 0, 1) := by decide +kernel
theorem dX12_pack_148 : decode cX12_pack 148 = .ok (.getfield 81, 3) := by decide +kernel
theorem dX12_pack_151 : decode cX12_pack 151 = .ok (.arraylength, 1) := by decide +kernel
theorem dX12_pack_152 : decode cX12_pack 152 = .ok (.iadd, 1) := by decide +kernel
theorem dX12_pack_153 : decode cX12_pack 153 = .ok (.istore_n 3, 1) := by decide +kernel
theorem dX12_pack_154 : decode cX12_pack 154 = .ok (.iconst 0, 1) := by decide +kernel
theorem dX12_pack_155 : decode cX12_pack 155 = .ok (.istore 4, 2) := by decide +kernel
theorem dX12_pack_157 : decode cX12_pack 157 = .ok (.iload 4, 2) := by decide +kernel
theorem dX12_pack_159 : decode cX12_pack 159 = .ok (.bipush 6, 2) := by decide +kernel
theorem dX12_pack_161 : decode cX12_pack 161 = .ok (.if_icmp .ge 22, 3) := by decide +kernel
theorem dX12_pack_164 : decode cX12_pack 164 = .ok (.aload_n 1, 1) := by decide +kernel
theorem dX12_pack_165 : decode cX12_pack 165 = .ok (.iload_n 3, 1) := by decide +kernel
theorem dX12_pack_166 : decode cX12_pack 166 = .ok (.iload 4, 2) := by decide +kernel
theorem dX12_pack_168 : decode cX12_pack 168 = .ok (.iadd, 1) := by decide +kernel
theorem dX12_pack_169 : decode cX12_pack 169 = .ok (.aload_n 0, 1) := by decide +kernel
theorem dX12_pack_170 : decode cX12_pack 170 = .ok (.getfield 84, 3) := by decide +kernel
theorem dX12_pack_173 : decode cX12_pack 173 = .ok (.iload 4, 2) := by decide +kernel
theorem dX12_pack_175 : decode cX12_pack 175 = .ok (.iaload, 1) := by decide +kernel
theorem dX12_pack_176 : decode cX12_pack 176 = .ok (.iastore, 1) := by decide +kernel
theorem dX12_pack_177 : decode cX12_pack 177 = .ok (.iinc 4 1, 3) := by decide +kernel
theorem dX12_pack_180 : decode cX12_pack 180 = .ok (.goto (-23), 3) := by decide +kernel
theorem dX12_pack_183 : decode cX12_pack 183 = .ok (.return_, 1) := by decide +kernel
theorem dX12_unpack_0 : decode cX12_unpack 0 = .ok (.aload_n 0, 1) := by decide +kernel
theorem dX12_unpack_1 : decode cX12_unpack 1 = .ok (.aload_n 1, 1) := by decide +kernel
theorem dX12_unpack_2 : decode cX12_unpack 2 = .ok (.iload_n 2, 1) := by decide +kernel
theorem dX12_unpack_3 : decode cX12_unpack 3 = .ok (.iaload, 1) := by decide +kernel
theorem dX12_unpack_4 : decode cX12_unpack 4 = .ok (.putfield 325, 3) := by decide +kernel
theorem dX12_unpack_7 : decode cX12_unpack 7 = .ok (.aload_n 0, 1) := by decide +kernel
theorem dX12_unpack_8 : decode cX12_unpack 8 = .ok (.aload_n 1, 1) := by decide +kernel
theorem dX12_unpack_9 : decode cX12_unpack 9 = .ok (.iload_n 2, 1) := by decide +kernel
theorem dX12_unpack_10 : decode cX12_unpack 10 = .ok (.iconst 1, 1) := by decide +kernel
theorem dX12_unpack_11 : decode cX12_unpack 11 = .ok (.iadd, 1) := by decide +kernel
theorem dX12_unpack_12 : decode cX12_unpack 12 = .ok (.iaload, 1) := by decide +kernel
theorem dX12_unpack_13 : decode cX12_unpack 13 = .ok (.putfield 327, 3) := by decide +kernel
theorem dX12_unpack_16 : decode cX12_unpack 16 = .ok (.iload_n 2, 1) := by decide +kernel
theorem dX12_unpack_17 : decode cX12_unpack 17 = .ok (.iconst 2, 1) := by decide +kernel
theorem dX12_unpack_18 : decode cX12_unpack 18 = .ok (.iadd, 1) := by decide +kernel
theorem dX12_unpack_19 : decode cX12_unpack 19 = .ok (.istore_n 3, 1) := by decide +kernel
theorem dX12_unpack_20 : decode cX12_unpack 20 = .ok (.iconst 0, 1) := by decide +kernel
theorem dX12_unpack_21 : decode cX12_unpack 21 = .ok (.istore 4, 2) := by decide +kernel
theorem dX12_unpack_23 : decode cX12_unpack 23 = .ok (.iload 4, 2) := by decide +kernel
theorem dX12_unpack_25 : decode cX12_unpack 25 = .ok (.bipush 10, 2) := by decide +kernel
theorem dX12_unpack_27 : decode cX12_unpack 27 = .ok (.if_icmp .ge 38, 3) := by decide +kernel
theorem dX12_unpack_30 : decode cX12_unpack 30 = .ok (.aload_n 0, 1) := by decide +kernel
theorem dX12_unpack_31 : decode cX12_unpack 31 = .ok (.getfield 70, 3) := by decide +kernel
theorem dX12_unpack_34 : decode cX12_unpack 34 = .ok (.iload 4, 2) := by decide +kernel
theorem dX12_unpack_36 : decode cX12_unpack 36 = .ok (.aload_n 1, 1) := by decide +kernel
theorem dX12_unpack_37 : decode cX12_unpack 37 = .ok (.iload_n 3, 1) := by decide +kernel
theorem dX12_unpack_38 : decode cX12_unpack 38 = .ok (.iload 4, 2) := by decide +kernel
theorem dX12_unpack_40 : decode cX12_unpack 40 = .ok (.iadd, 1) := by decide +kernel
theorem dX12_unpack_41 : decode cX12_unpack 41 = .ok (.iaload, 1) := by decide +kernel
theorem dX12_unpack_42 : decode cX12_unpack 42 = .ok (.iastore, 1) := by decide +kernel
theorem dX12_unpack_43 : decode cX12_unpack 43 = .ok (.aload_n 0, 1) := by decide +kernel
theorem dX12_unpack_44 : decode cX12_unpack 44 = .ok (.getfield 72, 3) := by decide +kernel
theorem dX12_unpack_47 : decode cX12_unpack 47 = .ok (.iload 4, 2) := by decide +kernel
theorem dX12_unpack_49 : decode cX12_unpack 49 = .ok (.aload_n 1, 1) := by decide +kernel
theorem dX12_unpack_50 : decode cX12_unpack 50 = .ok (.iload_n 3, 1) := by decide +kernel
theorem dX12_unpack_51 : decode cX12_unpack 51 = .ok (.bipush 10, 2) := by decide +kernel
theorem dX12_unpack_53 : decode cX12_unpack 53 = .ok (.iadd, 1) := by decide +kernel
theorem dX12_unpack_54 : decode cX12_unpack 54 = .ok (.iload 4, 2) := by decide +kernel
theorem dX12_unpack_56 : decode cX12_unpack 56 = .ok (.iadd, 1) := by decide +kernel
theorem dX12_unpack_57 : decode cX12_unpack 57 = .ok (.iaload, 1) := by decide +kernel
theorem dX12_unpack_58 : decode cX12_unpack 58 = .ok (.iastore, 1) := by decide +kernel
theorem dX12_unpack_59 : decode cX12_unpack 59 = .ok (.iinc 4 1, 3) := by decide +kernel
theorem dX12_unpack_62 : decode cX12_unpack 62 = .ok (.goto (-39), 3) := by decide +kernel
theorem dX12_unpack_65 : decode cX12_unpack 65 = .ok (.iinc 3 20, 3) := by decide +kernel
theorem dX12_unpack_68 : decode cX12_unpack 68 = .ok (.iconst 0, 1) := by decide +kernel
theorem dX12_unpack_69 : decode cX12_unpack 69 = .ok (.istore 4, 2) := by decide +kernel
theorem dX12_unpack_71 : decode cX12_unpack 71 = .ok (.iload 4, 2) := by decide +kernel
theorem dX12_unpack_73 : decode cX12_unpack 73 = .ok (.iconst 5, 1) := by decide +kernel
theorem dX12_unpack_74 : decode cX12_unpack 74 = .ok (.if_icmp .ge 37, 3) := by decide +kernel
theorem dX12_unpack_77 : decode cX12_unpack 77 = .ok (.aload_n 0, 1) := by decide +kernel
theorem dX12_unpack_78 : decode cX12_unpack 78 = .ok (.getfield 75, 3) := by decide +kernel
theorem dX12_unpack_81 : decode cX12_unpack 81 = .ok (.iload 4, 2) := by decide +kernel
theorem dX12_unpack_83 : decode cX12_unpack 83 = .ok (.aload_n 1, 1) := by decide +kernel
theorem dX12_unpack_84 : decode cX12_unpack 84 = .ok (.iload_n 3, 1) := by decide +kernel
theorem dX12_unpack_85 : decode cX12_unpack 85 = .ok (.iload 4, 2) := by decide +kernel
theorem dX12_unpack_87 : decode cX12_unpack 87 = .ok (.iadd, 1) := by decide +kernel
theorem dX12_unpack_88 : decode cX12_unpack 88 = .ok (.iaload, 1) := by decide +kernel
theorem dX12_unpack_89 : decode cX12_unpack 89 = .ok (.iastore, 1) := by decide +kernel
theorem dX12_unpack_90 : decode cX12_unpack 90 = .ok (.aload_n 0, 1) := by decide +kernel
theorem dX12_unpack_91 : decode cX12_unpack 91 = .ok (.getfield 78, 3) := by decide +kernel
theorem dX12_unpack_94 : decode cX12_unpack 94 = .ok (.iload 4, 2) := by decide +kernel
theorem dX12_unpack_96 : decode cX12_unpack 96 = .ok (.aload_n 1, 1) := by decide +kernel
theorem dX12_unpack_97 : decode cX12_unpack 97 = .ok (.iload_n 3, 1) := by decide +kernel
theorem dX12_unpack_98 : decode cX12_unpack 98 = .ok (.iconst 5, 1) := by decide +kernel
theorem dX12_unpack_99 : decode cX12_unpack 99 = .ok (.iadd, 1) := by decide +kernel
theorem dX12_unpack_100 : decode cX12_unpack 100 = .ok (.iload 4, 2) := by decide +kernel
theorem dX12_unpack_102 : decode cX12_unpack 102 = .ok (.iadd, 1) := by decide +kernel
theorem dX12_unpack_103 : decode cX12_unpack 103 = .ok (.iaload, 1) := by decide +kernel
theorem dX12_unpack_104 : decode cX12_unpack 104 = .ok (.iastore, 1) := by decide +kernel
theorem dX12_unpack_105 : decode cX12_unpack 105 = .ok (.iinc 4 1, 3) := by decide +kernel
theorem dX12_unpack_108 : decode cX12_unpack 108 = .ok (.goto (-37), 3) := by decide +kernel
theorem dX12_unpack_111 : decode cX12_unpack 111 = .ok (.iinc 3 10, 3) := by decide +kernel
theorem dX12_unpack_114 : decode cX12_unpack 114 = .ok (.iconst 0, 1) := by decide +kernel
theorem dX12_unpack_115 : decode cX12_unpack 115 = .ok (.istore 4, 2) := by decide +kernel
theorem dX12_unpack_117 : decode cX12_unpack 117 = .ok (.iload 4, 2) := by decide +kernel
theorem dX12_unpack_119 : decode cX12_unpack 119 = .ok (.aload_n 0, 1) := by decide +kernel
theorem dX12_unpack_120 : decode cX12_unpack 120 = .ok (.getfield 81, 3) := by decide +kernel
theorem dX12_unpack_123 : decode cX12_unpack 123 = .ok (.arraylength, 1) := by decide +kernel
theorem dX12_unpack_124 : decode cX12_unpack 124 = .ok (.if_icmp .ge 22, 3) := by decide +kernel
theorem dX12_unpack_127 : decode cX12_unpack 127 = .ok (.aload_n 0, 1) := by decide +kernel
theorem dX12_unpack_128 : decode cX12_unpack 128 = .ok (.getfield 81, 3) := by decide +kernel
theorem dX12_unpack_131 : decode cX12_unpack 131 = .ok (.iload 4, 2) := by decide +kernel
theorem dX12_unpack_133 : decode cX12_unpack 133 = .ok (.aload_n 1, 1) := by decide +kernel
theorem dX12_unpack_134 : decode cX12_unpack 134 = .ok (.iload_n 3, 1) := by decide +kernel
theorem dX12_unpack_135 : decode cX12_unpack 135 = .ok (.iload 4, 2) := by decide +kernel
theorem dX12_unpack_137 : decode cX12_unpack 137 = .ok (.iadd, 1) := by decide +kernel
theorem dX12_unpack_138 : decode cX12_unpack 138 = .ok (.iaload, 1) := by decide +kernel
theorem dX12_unpack_139 : decode cX12_unpack 139 = .ok (.iastore, 1) := by decide +kernel
theorem dX12_unpack_140 : decode cX12_unpack 140 = .ok (.iinc 4 1, 3) := by decide +kernel
theorem dX12_unpack_143 : decode cX12_unpack 143 = .ok (.goto (-26), 3) := by decide +kernel
theorem dX12_unpack_146 : decode cX12_unpack 146 = .ok (.iload_n 3, 1) := by decide +kernel
theorem dX12_unpack_147 : decode cX12_unpack 147 = .ok (.aload_n 0, 1) := by decide +kernel
theorem dX12_unpack_148 : decode cX12_unpack 148 = .ok (.getfield 81, 3) := by decide +kernel
theorem dX12_unpack_151 : decode cX12_unpack 151 = .ok (.arraylength, 1) := by decide +kernel
theorem dX12_unpack_152 : decode cX12_unpack 152 = .ok (.iadd, 1) := by decide +kernel
theorem dX12_unpack_153 : decode cX12_unpack 153 = .ok (.istore_n 3, 1) := by decide +kernel
theorem dX12_unpack_154 : decode cX12_unpack 154 = .ok (.iconst 0, 1) := by decide +kernel
theorem dX12_unpack_155 : decode cX12_unpack 155 = .ok (.istore 4, 2) := by decide +kernel
theorem dX12_unpack_157 : decode cX12_unpack 157 = .ok (.iload 4, 2) := by decide +kernel
theorem dX12_unpack_159 : decode cX12_unpack 159 = .ok (.bipush 6, 2) := by decide +kernel
theorem dX12_unpack_161 : decode cX12_unpack 161 = .ok (.if_icmp .ge 22, 3) := by decide +kernel
theorem dX12_unpack_164 : decode cX12_unpack 164 = .ok (.aload_n 0, 1) := by decide +kernel
theorem dX12_unpack_165 : decode cX12_unpack 165 = .ok (.getfield 84, 3) := by decide +kernel
theorem dX12_unpack_168 : decode cX12_unpack 168 = .ok (.iload 4, 2) := by decide +kernel
theorem dX12_unpack_170 : decode cX12_unpack 170 = .ok (.aload_n 1, 1) := by decide +kernel
theorem dX12_unpack_171 : decode cX12_unpack 171 = .ok (.iload_n 3, 1) := by decide +kernel
theorem dX12_unpack_172 : decode cX12_unpack 172 = .ok (.iload 4, 2) := by decide +kernel
theorem dX12_unpack_174 : decode cX12_unpack 174 = .ok (.iadd, 1) := by decide +kernel
theorem dX12_unpack_175 : decode cX12_unpack 175 = .ok (.iaload, 1) := by decide +kernel
theorem dX12_unpack_176 : decode cX12_unpack 176 = .ok (.iastore, 1) := by decide +kernel
theorem dX12_unpack_177 : decode cX12_unpack 177 = .ok (.iinc 4 1, 3) := by decide +kernel
theorem dX12_unpack_180 : decode cX12_unpack 180 = .ok (.goto (-23), 3) := by decide +kernel
theorem dX12_unpack_183 : decode cX12_unpack 183 = .ok (.return_, 1) := by decide +kernel
theorem dX12_whereSet_0 : decode cX12_whereSet 0 = .ok (.iconst 0, 1) := by decide +kernel
theorem dX12_whereSet_1 : decode cX12_whereSet 1 = .ok (.istore_n 2, 1) := by decide +kernel
theorem dX12_whereSet_2 : decode cX12_whereSet 2 = .ok (.iconst 0, 1) := by decide +kernel
theorem dX12_whereSet_3 : decode cX12_whereSet 3 = .ok (.istore_n 3, 1) := by decide +kernel
theorem dX12_whereSet_4 : decode cX12_whereSet 4 = .ok (.iload_n 3, 1) := by decide +kernel
theorem dX12_whereSet_5 : decode cX12_whereSet 5 = .ok (.aload_n 0, 1) := by decide +kernel
theorem dX12_whereSet_6 : decode cX12_whereSet 6 = .ok (.getfield 33, 3) := by decide +kernel
theorem dX12_whereSet_9 : decode cX12_whereSet 9 = .ok (.iconst 2, 1) := by decide +kernel
theorem dX12_whereSet_10 : decode cX12_whereSet 10 = .ok (.iaload, 1) := by decide +kernel
theorem dX12_whereSet_11 : decode cX12_whereSet 11 = .ok (.if_icmp .ge 29, 3) := by decide +kernel
theorem dX12_whereSet_14 : decode cX12_whereSet 14 = .ok (.iload_n 2, 1) := by decide +kernel
theorem dX12_whereSet_15 : decode cX12_whereSet 15 = .ok (.aload_n 0, 1) := by decide +kernel
theorem dX12_whereSet_16 : decode cX12_whereSet 16 = .ok (.getfield 72, 3) := by decide +kernel
theorem dX12_whereSet_19 : decode cX12_whereSet 19 = .ok (.iload_n 3, 1) := by decide +kernel
theorem dX12_whereSet_20 : decode cX12_whereSet 20 = .ok (.iaload, 1) := by decide +kernel
theorem dX12_whereSet_21 : decode cX12_whereSet 21 = .ok (.iload_n 1, 1) := by decide +kernel
theorem dX12_whereSet_22 : decode cX12_whereSet 22 = .ok (.if_icmp .ne 9, 3) := by decide +kernel
theorem dX12_whereSet_25 : decode cX12_whereSet 25 = .ok (.iconst 1, 1) := by decide +kernel
theorem dX12_whereSet_26 : decode cX12_whereSet 26 = .ok (.iload_n 3, 1) := by decide +kernel
theorem dX12_whereSet_27 : decode cX12_whereSet 27 = .ok (.ishl, 1) := by decide +kernel
theorem dX12_whereSet_28 : decode cX12_whereSet 28 = .ok (.goto 4, 3) := by decide +kernel
theorem dX12_whereSet_31 : decode cX12_whereSet 31 = .ok (.iconst 0, 1) := by decide +kernel
theorem dX12_whereSet_32 : decode cX12_whereSet 32 = .ok (.ior, 1) := by decide +kernel
theorem dX12_whereSet_33 : decode cX12_whereSet 33 = .ok (.istore_n 2, 1) := by decide +kernel
theorem dX12_whereSet_34 : decode cX12_whereSet 34 = .ok (.iinc 3 1, 3) := by decide +kernel
theorem dX12_whereSet_37 : decode cX12_whereSet 37 = .ok (.goto (-33), 3) := by decide +kernel
theorem dX12_whereSet_40 : decode cX12_whereSet 40 = .ok (.iload_n 2, 1) := by decide +kernel
theorem dX12_whereSet_41 : decode cX12_whereSet 41 = .ok (.ireturn, 1) := by decide +kernel
theorem dX12_throatOf_0 : decode cX12_throatOf 0 = .ok (.iconst 0, 1) := by decide +kernel
theorem dX12_throatOf_1 : decode cX12_throatOf 1 = .ok (.istore_n 2, 1) := by decide +kernel
theorem dX12_throatOf_2 : decode cX12_throatOf 2 = .ok (.iload_n 2, 1) := by decide +kernel
theorem dX12_throatOf_3 : decode cX12_throatOf 3 = .ok (.aload_n 0, 1) := by decide +kernel
theorem dX12_throatOf_4 : decode cX12_throatOf 4 = .ok (.getfield 33, 3) := by decide +kernel
theorem dX12_throatOf_7 : decode cX12_throatOf 7 = .ok (.iconst 1, 1) := by decide +kernel
theorem dX12_throatOf_8 : decode cX12_throatOf 8 = .ok (.iaload, 1) := by decide +kernel
theorem dX12_throatOf_9 : decode cX12_throatOf 9 = .ok (.if_icmp .ge 44, 3) := by decide +kernel
theorem dX12_throatOf_12 : decode cX12_throatOf 12 = .ok (.iconst 0, 1) := by decide +kernel
theorem dX12_throatOf_13 : decode cX12_throatOf 13 = .ok (.istore_n 3, 1) := by decide +kernel
theorem dX12_throatOf_14 : decode cX12_throatOf 14 = .ok (.iload_n 3, 1) := by decide +kernel
theorem dX12_throatOf_15 : decode cX12_throatOf 15 = .ok (.aload_n 0, 1) := by decide +kernel
theorem dX12_throatOf_16 : decode cX12_throatOf 16 = .ok (.getfield 78, 3) := by decide +kernel
theorem dX12_throatOf_19 : decode cX12_throatOf 19 = .ok (.iload_n 2, 1) := by decide +kernel
theorem dX12_throatOf_20 : decode cX12_throatOf 20 = .ok (.iaload, 1) := by decide +kernel
theorem dX12_throatOf_21 : decode cX12_throatOf 21 = .ok (.if_icmp .ge 26, 3) := by decide +kernel
theorem dX12_throatOf_24 : decode cX12_throatOf 24 = .ok (.aload_n 0, 1) := by decide +kernel
theorem dX12_throatOf_25 : decode cX12_throatOf 25 = .ok (.getfield 81, 3) := by decide +kernel
theorem dX12_throatOf_28 : decode cX12_throatOf 28 = .ok (.bipush 10, 2) := by decide +kernel
theorem dX12_throatOf_30 : decode cX12_throatOf 30 = .ok (.iload_n 2, 1) := by decide +kernel
theorem dX12_throatOf_31 : decode cX12_throatOf 31 = .ok (.imul, 1) := by decide +kernel
theorem dX12_throatOf_32 : decode cX12_throatOf 32 = .ok (.iload_n 3, 1) := by decide +kernel
theorem dX12_throatOf_33 : decode cX12_throatOf 33 = .ok (.iadd, 1) := by decide +kernel
theorem dX12_throatOf_34 : decode cX12_throatOf 34 = .ok (.iaload, 1) := by decide +kernel
theorem dX12_throatOf_35 : decode cX12_throatOf 35 = .ok (.iload_n 1, 1) := by decide +kernel
theorem dX12_throatOf_36 : decode cX12_throatOf 36 = .ok (.if_icmp .ne 5, 3) := by decide +kernel
theorem dX12_throatOf_39 : decode cX12_throatOf 39 = .ok (.iload_n 2, 1) := by decide +kernel
theorem dX12_throatOf_40 : decode cX12_throatOf 40 = .ok (.ireturn, 1) := by decide +kernel
theorem dX12_throatOf_41 : decode cX12_throatOf 41 = .ok (.iinc 3 1, 3) := by decide +kernel
theorem dX12_throatOf_44 : decode cX12_throatOf 44 = .ok (.goto (-30), 3) := by decide +kernel
theorem dX12_throatOf_47 : decode cX12_throatOf 47 = .ok (.iinc 2 1, 3) := by decide +kernel
theorem dX12_throatOf_50 : decode cX12_throatOf 50 = .ok (.goto (-48), 3) := by decide +kernel
theorem dX12_throatOf_53 : decode cX12_throatOf 53 = .ok (.iconst (-1), 1) := by decide +kernel
theorem dX12_throatOf_54 : decode cX12_throatOf 54 = .ok (.ireturn, 1) := by decide +kernel
theorem dX12_inside_0 : decode cX12_inside 0 = .ok (.iconst 0, 1) := by decide +kernel
theorem dX12_inside_1 : decode cX12_inside 1 = .ok (.istore_n 2, 1) := by decide +kernel
theorem dX12_inside_2 : decode cX12_inside 2 = .ok (.iconst 0, 1) := by decide +kernel
theorem dX12_inside_3 : decode cX12_inside 3 = .ok (.istore_n 3, 1) := by decide +kernel
theorem dX12_inside_4 : decode cX12_inside 4 = .ok (.iload_n 3, 1) := by decide +kernel
theorem dX12_inside_5 : decode cX12_inside 5 = .ok (.aload_n 0, 1) := by decide +kernel
theorem dX12_inside_6 : decode cX12_inside 6 = .ok (.getfield 78, 3) := by decide +kernel
theorem dX12_inside_9 : decode cX12_inside 9 = .ok (.iload_n 1, 1) := by decide +kernel
theorem dX12_inside_10 : decode cX12_inside 10 = .ok (.iaload, 1) := by decide +kernel
theorem dX12_inside_11 : decode cX12_inside 11 = .ok (.if_icmp .ge 25, 3) := by decide +kernel
theorem dX12_inside_14 : decode cX12_inside 14 = .ok (.iload_n 2, 1) := by decide +kernel
theorem dX12_inside_15 : decode cX12_inside 15 = .ok (.iconst 1, 1) := by decide +kernel
theorem dX12_inside_16 : decode cX12_inside 16 = .ok (.aload_n 0, 1) := by decide +kernel
theorem dX12_inside_17 : decode cX12_inside 17 = .ok (.getfield 81, 3) := by decide +kernel
theorem dX12_inside_20 : decode cX12_inside 20 = .ok (.bipush 10, 2) := by decide +kernel
theorem dX12_inside_22 : decode cX12_inside 22 = .ok (.iload_n 1, 1) := by decide +kernel
theorem dX12_inside_23 : decode cX12_inside 23 = .ok (.imul, 1) := by decide +kernel
theorem dX12_inside_24 : decode cX12_inside 24 = .ok (.iload_n 3, 1) := by decide +kernel
theorem dX12_inside_25 : decode cX12_inside 25 = .ok (.iadd, 1) := by decide +kernel
theorem dX12_inside_26 : decode cX12_inside 26 = .ok (.iaload, 1) := by decide +kernel
theorem dX12_inside_27 : decode cX12_inside 27 = .ok (.ishl, 1) := by decide +kernel
theorem dX12_inside_28 : decode cX12_inside 28 = .ok (.ior, 1) := by decide +kernel
theorem dX12_inside_29 : decode cX12_inside 29 = .ok (.istore_n 2, 1) := by decide +kernel
theorem dX12_inside_30 : decode cX12_inside 30 = .ok (.iinc 3 1, 3) := by decide +kernel
theorem dX12_inside_33 : decode cX12_inside 33 = .ok (.goto (-29), 3) := by decide +kernel
theorem dX12_inside_36 : decode cX12_inside 36 = .ok (.iload_n 2, 1) := by decide +kernel
theorem dX12_inside_37 : decode cX12_inside 37 = .ok (.ireturn, 1) := by decide +kernel
theorem dX12_aboveSet_0 : decode cX12_aboveSet 0 = .ok (.aload_n 0, 1) := by decide +kernel
theorem dX12_aboveSet_1 : decode cX12_aboveSet 1 = .ok (.iload_n 1, 1) := by decide +kernel
theorem dX12_aboveSet_2 : decode cX12_aboveSet 2 = .ok (.invokevirtual 339, 3) := by decide +kernel
theorem dX12_aboveSet_5 : decode cX12_aboveSet 5 = .ok (.istore_n 2, 1) := by decide +kernel
theorem dX12_aboveSet_6 : decode cX12_aboveSet 6 = .ok (.iconst 0, 1) := by decide +kernel
theorem dX12_aboveSet_7 : decode cX12_aboveSet 7 = .ok (.istore_n 3, 1) := by decide +kernel
theorem dX12_aboveSet_8 : decode cX12_aboveSet 8 = .ok (.iload_n 2, 1) := by decide +kernel
theorem dX12_aboveSet_9 : decode cX12_aboveSet 9 = .ok (.iconst (-1), 1) := by decide +kernel
theorem dX12_aboveSet_10 : decode cX12_aboveSet 10 = .ok (.if_icmp .ne 7, 3) := by decide +kernel
theorem dX12_aboveSet_13 : decode cX12_aboveSet 13 = .ok (.iconst (-1), 1) := by decide +kernel
theorem dX12_aboveSet_14 : decode cX12_aboveSet 14 = .ok (.goto 11, 3) := by decide +kernel
theorem dX12_aboveSet_17 : decode cX12_aboveSet 17 = .ok (.aload_n 0, 1) := by decide +kernel
theorem dX12_aboveSet_18 : decode cX12_aboveSet 18 = .ok (.getfield 78, 3) := by decide +kernel
theorem dX12_aboveSet_21 : decode cX12_aboveSet 21 = .ok (.iload_n 2, 1) := by decide +kernel
theorem dX12_aboveSet_22 : decode cX12_aboveSet 22 = .ok (.iaload, 1) := by decide +kernel
theorem dX12_aboveSet_23 : decode cX12_aboveSet 23 = .ok (.iconst 1, 1) := by decide +kernel
theorem dX12_aboveSet_24 : decode cX12_aboveSet 24 = .ok (.isub, 1) := by decide +kernel
theorem dX12_aboveSet_25 : decode cX12_aboveSet 25 = .ok (.istore 4, 2) := by decide +kernel
theorem dX12_aboveSet_27 : decode cX12_aboveSet 27 = .ok (.iload 4, 2) := by decide +kernel
theorem dX12_aboveSet_29 : decode cX12_aboveSet 29 = .ok (.ifCond .lt 42, 3) := by decide +kernel
theorem dX12_aboveSet_32 : decode cX12_aboveSet 32 = .ok (.aload_n 0, 1) := by decide +kernel
theorem dX12_aboveSet_33 : decode cX12_aboveSet 33 = .ok (.getfield 81, 3) := by decide +kernel
theorem dX12_aboveSet_36 : decode cX12_aboveSet 36 = .ok (.bipush 10, 2) := by decide +kernel
theorem dX12_aboveSet_38 : decode cX12_aboveSet 38 = .ok (.iload_n 2, 1) := by decide +kernel
theorem dX12_aboveSet_39 : decode cX12_aboveSet 39 = .ok (.imul, 1) := by decide +kernel
theorem dX12_aboveSet_40 : decode cX12_aboveSet 40 = .ok (.iload 4, 2) := by decide +kernel
theorem dX12_aboveSet_42 : decode cX12_aboveSet 42 = .ok (.iadd, 1) := by decide +kernel
theorem dX12_aboveSet_43 : decode cX12_aboveSet 43 = .ok (.iaload, 1) := by decide +kernel
theorem dX12_aboveSet_44 : decode cX12_aboveSet 44 = .ok (.iload_n 1, 1) := by decide +kernel
theorem dX12_aboveSet_45 : decode cX12_aboveSet 45 = .ok (.if_icmp .eq 26, 3) := by decide +kernel
theorem dX12_aboveSet_48 : decode cX12_aboveSet 48 = .ok (.iload_n 3, 1) := by decide +kernel
theorem dX12_aboveSet_49 : decode cX12_aboveSet 49 = .ok (.iconst 1, 1) := by decide +kernel
theorem dX12_aboveSet_50 : decode cX12_aboveSet 50 = .ok (.aload_n 0, 1) := by decide +kernel
theorem dX12_aboveSet_51 : decode cX12_aboveSet 51 = .ok (.getfield 81, 3) := by decide +kernel
theorem dX12_aboveSet_54 : decode cX12_aboveSet 54 = .ok (.bipush 10, 2) := by decide +kernel
theorem dX12_aboveSet_56 : decode cX12_aboveSet 56 = .ok (.iload_n 2, 1) := by decide +kernel
theorem dX12_aboveSet_57 : decode cX12_aboveSet 57 = .ok (.imul, 1) := by decide +kernel
theorem dX12_aboveSet_58 : decode cX12_aboveSet 58 = .ok (.iload 4, 2) := by decide +kernel
theorem dX12_aboveSet_60 : decode cX12_aboveSet 60 = .ok (.iadd, 1) := by decide +kernel
theorem dX12_aboveSet_61 : decode cX12_aboveSet 61 = .ok (.iaload, 1) := by decide +kernel
theorem dX12_aboveSet_62 : decode cX12_aboveSet 62 = .ok (.ishl, 1) := by decide +kernel
theorem dX12_aboveSet_63 : decode cX12_aboveSet 63 = .ok (.ior, 1) := by decide +kernel
theorem dX12_aboveSet_64 : decode cX12_aboveSet 64 = .ok (.istore_n 3, 1) := by decide +kernel
theorem dX12_aboveSet_65 : decode cX12_aboveSet 65 = .ok (.iinc 4 (-1), 3) := by decide +kernel
theorem dX12_aboveSet_68 : decode cX12_aboveSet 68 = .ok (.goto (-41), 3) := by decide +kernel
theorem dX12_aboveSet_71 : decode cX12_aboveSet 71 = .ok (.iload_n 3, 1) := by decide +kernel
theorem dX12_aboveSet_72 : decode cX12_aboveSet 72 = .ok (.ireturn, 1) := by decide +kernel
theorem dX12_topOf_0 : decode cX12_topOf 0 = .ok (.aload_n 0, 1) := by decide +kernel
theorem dX12_topOf_1 : decode cX12_topOf 1 = .ok (.getfield 78, 3) := by decide +kernel
theorem dX12_topOf_4 : decode cX12_topOf 4 = .ok (.iload_n 1, 1) := by decide +kernel
theorem dX12_topOf_5 : decode cX12_topOf 5 = .ok (.iaload, 1) := by decide +kernel
theorem dX12_topOf_6 : decode cX12_topOf 6 = .ok (.ifCond .ne 7, 3) := by decide +kernel
theorem dX12_topOf_9 : decode cX12_topOf 9 = .ok (.iconst (-1), 1) := by decide +kernel
theorem dX12_topOf_10 : decode cX12_topOf 10 = .ok (.goto 21, 3) := by decide +kernel
theorem dX12_topOf_13 : decode cX12_topOf 13 = .ok (.aload_n 0, 1) := by decide +kernel
theorem dX12_topOf_14 : decode cX12_topOf 14 = .ok (.getfield 81, 3) := by decide +kernel
theorem dX12_topOf_17 : decode cX12_topOf 17 = .ok (.bipush 10, 2) := by decide +kernel
theorem dX12_topOf_19 : decode cX12_topOf 19 = .ok (.iload_n 1, 1) := by decide +kernel
theorem dX12_topOf_20 : decode cX12_topOf 20 = .ok (.imul, 1) := by decide +kernel
theorem dX12_topOf_21 : decode cX12_topOf 21 = .ok (.aload_n 0, 1) := by decide +kernel
theorem dX12_topOf_22 : decode cX12_topOf 22 = .ok (.getfield 78, 3) := by decide +kernel
theorem dX12_topOf_25 : decode cX12_topOf 25 = .ok (.iload_n 1, 1) := by decide +kernel
theorem dX12_topOf_26 : decode cX12_topOf 26 = .ok (.iaload, 1) := by decide +kernel
theorem dX12_topOf_27 : decode cX12_topOf 27 = .ok (.iadd, 1) := by decide +kernel
theorem dX12_topOf_28 : decode cX12_topOf 28 = .ok (.iconst 1, 1) := by decide +kernel
theorem dX12_topOf_29 : decode cX12_topOf 29 = .ok (.isub, 1) := by decide +kernel
theorem dX12_topOf_30 : decode cX12_topOf 30 = .ok (.iaload, 1) := by decide +kernel
theorem dX12_topOf_31 : decode cX12_topOf 31 = .ok (.ireturn, 1) := by decide +kernel
theorem dX12_lengths_0 : decode cX12_lengths 0 = .ok (.iconst 0, 1) := by decide +kernel
theorem dX12_lengths_1 : decode cX12_lengths 1 = .ok (.istore_n 2, 1) := by decide +kernel
theorem dX12_lengths_2 : decode cX12_lengths 2 = .ok (.iconst 0, 1) := by decide +kernel
theorem dX12_lengths_3 : decode cX12_lengths 3 = .ok (.istore_n 3, 1) := by decide +kernel
theorem dX12_lengths_4 : decode cX12_lengths 4 = .ok (.iload_n 3, 1) := by decide +kernel
theorem dX12_lengths_5 : decode cX12_lengths 5 = .ok (.aload_n 0, 1) := by decide +kernel
theorem dX12_lengths_6 : decode cX12_lengths 6 = .ok (.getfield 33, 3) := by decide +kernel
theorem dX12_lengths_9 : decode cX12_lengths 9 = .ok (.iconst 2, 1) := by decide +kernel
theorem dX12_lengths_10 : decode cX12_lengths 10 = .ok (.iaload, 1) := by decide +kernel
theorem dX12_lengths_11 : decode cX12_lengths 11 = .ok (.if_icmp .ge 30, 3) := by decide +kernel
theorem dX12_lengths_14 : decode cX12_lengths 14 = .ok (.iload_n 2, 1) := by decide +kernel
theorem dX12_lengths_15 : decode cX12_lengths 15 = .ok (.iload_n 1, 1) := by decide +kernel
theorem dX12_lengths_16 : decode cX12_lengths 16 = .ok (.iload_n 3, 1) := by decide +kernel
theorem dX12_lengths_17 : decode cX12_lengths 17 = .ok (.invokestatic 284, 3) := by decide +kernel
theorem dX12_lengths_20 : decode cX12_lengths 20 = .ok (.ifCond .eq 12, 3) := by decide +kernel
theorem dX12_lengths_23 : decode cX12_lengths 23 = .ok (.aload_n 0, 1) := by decide +kernel
theorem dX12_lengths_24 : decode cX12_lengths 24 = .ok (.getfield 49, 3) := by decide +kernel
theorem dX12_lengths_27 : decode cX12_lengths 27 = .ok (.iload_n 3, 1) := by decide +kernel
theorem dX12_lengths_28 : decode cX12_lengths 28 = .ok (.iaload, 1) := by decide +kernel
theorem dX12_lengths_29 : decode cX12_lengths 29 = .ok (.goto 4, 3) := by decide +kernel
theorem dX12_lengths_32 : decode cX12_lengths 32 = .ok (.iconst 0, 1) := by decide +kernel
theorem dX12_lengths_33 : decode cX12_lengths 33 = .ok (.iadd, 1) := by decide +kernel
theorem dX12_lengths_34 : decode cX12_lengths 34 = .ok (.istore_n 2, 1) := by decide +kernel
theorem dX12_lengths_35 : decode cX12_lengths 35 = .ok (.iinc 3 1, 3) := by decide +kernel
theorem dX12_lengths_38 : decode cX12_lengths 38 = .ok (.goto (-34), 3) := by decide +kernel
theorem dX12_lengths_41 : decode cX12_lengths 41 = .ok (.iload_n 2, 1) := by decide +kernel
theorem dX12_lengths_42 : decode cX12_lengths 42 = .ok (.ireturn, 1) := by decide +kernel
theorem dX12_leftOf_0 : decode cX12_leftOf 0 = .ok (.aload_n 0, 1) := by decide +kernel
theorem dX12_leftOf_1 : decode cX12_leftOf 1 = .ok (.getfield 75, 3) := by decide +kernel
theorem dX12_leftOf_4 : decode cX12_leftOf 4 = .ok (.iload_n 1, 1) := by decide +kernel
theorem dX12_leftOf_5 : decode cX12_leftOf 5 = .ok (.iaload, 1) := by decide +kernel
theorem dX12_leftOf_6 : decode cX12_leftOf 6 = .ok (.aload_n 0, 1) := by decide +kernel
theorem dX12_leftOf_7 : decode cX12_leftOf 7 = .ok (.aload_n 0, 1) := by decide +kernel
theorem dX12_leftOf_8 : decode cX12_leftOf 8 = .ok (.iload_n 1, 1) := by decide +kernel
theorem dX12_leftOf_9 : decode cX12_leftOf 9 = .ok (.invokevirtual 342, 3) := by decide +kernel
theorem dX12_leftOf_12 : decode cX12_leftOf 12 = .ok (.invokevirtual 345, 3) := by decide +kernel
theorem dX12_leftOf_15 : decode cX12_leftOf 15 = .ok (.isub, 1) := by decide +kernel
theorem dX12_leftOf_16 : decode cX12_leftOf 16 = .ok (.ireturn, 1) := by decide +kernel
theorem dX12_putIn_0 : decode cX12_putIn 0 = .ok (.aload_n 0, 1) := by decide +kernel
theorem dX12_putIn_1 : decode cX12_putIn 1 = .ok (.getfield 72, 3) := by decide +kernel
theorem dX12_putIn_4 : decode cX12_putIn 4 = .ok (.iload_n 1, 1) := by decide +kernel
theorem dX12_putIn_5 : decode cX12_putIn 5 = .ok (.iconst 1, 1) := by decide +kernel
theorem dX12_putIn_6 : decode cX12_putIn 6 = .ok (.iastore, 1) := by decide +kernel
theorem dX12_putIn_7 : decode cX12_putIn 7 = .ok (.aload_n 0, 1) := by decide +kernel
theorem dX12_putIn_8 : decode cX12_putIn 8 = .ok (.getfield 81, 3) := by decide +kernel
theorem dX12_putIn_11 : decode cX12_putIn 11 = .ok (.bipush 10, 2) := by decide +kernel
theorem dX12_putIn_13 : decode cX12_putIn 13 = .ok (.iload_n 2, 1) := by decide +kernel
theorem dX12_putIn_14 : decode cX12_putIn 14 = .ok (.imul, 1) := by decide +kernel
theorem dX12_putIn_15 : decode cX12_putIn 15 = .ok (.aload_n 0, 1) := by decide +kernel
theorem dX12_putIn_16 : decode cX12_putIn 16 = .ok (.getfield 78, 3) := by decide +kernel
theorem dX12_putIn_19 : decode cX12_putIn 19 = .ok (.iload_n 2, 1) := by decide +kernel
theorem dX12_putIn_20 : decode cX12_putIn 20 = .ok (.iaload, 1) := by decide +kernel
theorem dX12_putIn_21 : decode cX12_putIn 21 = .ok (.iadd, 1) := by decide +kernel
theorem dX12_putIn_22 : decode cX12_putIn 22 = .ok (.iload_n 1, 1) := by decide +kernel
theorem dX12_putIn_23 : decode cX12_putIn 23 = .ok (.iastore, 1) := by decide +kernel
theorem dX12_putIn_24 : decode cX12_putIn 24 = .ok (.aload_n 0, 1) := by decide +kernel
theorem dX12_putIn_25 : decode cX12_putIn 25 = .ok (.getfield 78, 3) := by decide +kernel
theorem dX12_putIn_28 : decode cX12_putIn 28 = .ok (.iload_n 2, 1) := by decide +kernel
theorem dX12_putIn_29 : decode cX12_putIn 29 = .ok (.dup2, 1) := by decide +kernel
theorem dX12_putIn_30 : decode cX12_putIn 30 = .ok (.iaload, 1) := by decide +kernel
theorem dX12_putIn_31 : decode cX12_putIn 31 = .ok (.iconst 1, 1) := by decide +kernel
theorem dX12_putIn_32 : decode cX12_putIn 32 = .ok (.iadd, 1) := by decide +kernel
theorem dX12_putIn_33 : decode cX12_putIn 33 = .ok (.iastore, 1) := by decide +kernel
theorem dX12_putIn_34 : decode cX12_putIn 34 = .ok (.return_, 1) := by decide +kernel
theorem dX12_takeOut_0 : decode cX12_takeOut 0 = .ok (.aload_n 0, 1) := by decide +kernel
theorem dX12_takeOut_1 : decode cX12_takeOut 1 = .ok (.iload_n 1, 1) := by decide +kernel
theorem dX12_takeOut_2 : decode cX12_takeOut 2 = .ok (.invokevirtual 339, 3) := by decide +kernel
theorem dX12_takeOut_5 : decode cX12_takeOut 5 = .ok (.istore_n 3, 1) := by decide +kernel
theorem dX12_takeOut_6 : decode cX12_takeOut 6 = .ok (.iconst 0, 1) := by decide +kernel
theorem dX12_takeOut_7 : decode cX12_takeOut 7 = .ok (.istore 4, 2) := by decide +kernel
theorem dX12_takeOut_9 : decode cX12_takeOut 9 = .ok (.iconst 0, 1) := by decide +kernel
theorem dX12_takeOut_10 : decode cX12_takeOut 10 = .ok (.istore 5, 2) := by decide +kernel
theorem dX12_takeOut_12 : decode cX12_takeOut 12 = .ok (.iload 5, 2) := by decide +kernel
theorem dX12_takeOut_14 : decode cX12_takeOut 14 = .ok (.aload_n 0, 1) := by decide +kernel
theorem dX12_takeOut_15 : decode cX12_takeOut 15 = .ok (.getfield 78, 3) := by decide +kernel
theorem dX12_takeOut_18 : decode cX12_takeOut 18 = .ok (.iload_n 3, 1) := by decide +kernel
theorem dX12_takeOut_19 : decode cX12_takeOut 19 = .ok (.iaload, 1) := by decide +kernel
theorem dX12_takeOut_20 : decode cX12_takeOut 20 = .ok (.if_icmp .ge 49, 3) := by decide +kernel
theorem dX12_takeOut_23 : decode cX12_takeOut 23 = .ok (.aload_n 0, 1) := by decide +kernel
theorem dX12_takeOut_24 : decode cX12_takeOut 24 = .ok (.getfield 81, 3) := by decide +kernel
theorem dX12_takeOut_27 : decode cX12_takeOut 27 = .ok (.bipush 10, 2) := by decide +kernel
theorem dX12_takeOut_29 : decode cX12_takeOut 29 = .ok (.iload_n 3, 1) := by decide +kernel
theorem dX12_takeOut_30 : decode cX12_takeOut 30 = .ok (.imul, 1) := by decide +kernel
theorem dX12_takeOut_31 : decode cX12_takeOut 31 = .ok (.iload 5, 2) := by decide +kernel
theorem dX12_takeOut_33 : decode cX12_takeOut 33 = .ok (.iadd, 1) := by decide +kernel
theorem dX12_takeOut_34 : decode cX12_takeOut 34 = .ok (.iaload, 1) := by decide +kernel
theorem dX12_takeOut_35 : decode cX12_takeOut 35 = .ok (.istore 6, 2) := by decide +kernel
theorem dX12_takeOut_37 : decode cX12_takeOut 37 = .ok (.iload 6, 2) := by decide +kernel
theorem dX12_takeOut_39 : decode cX12_takeOut 39 = .ok (.iload_n 1, 1) := by decide +kernel
theorem dX12_takeOut_40 : decode cX12_takeOut 40 = .ok (.if_icmp .ne 6, 3) := by decide +kernel
theorem dX12_takeOut_43 : decode cX12_takeOut 43 = .ok (.goto 20, 3) := by decide +kernel
theorem dX12_takeOut_46 : decode cX12_takeOut 46 = .ok (.aload_n 0, 1) := by decide +kernel
theorem dX12_takeOut_47 : decode cX12_takeOut 47 = .ok (.getfield 81, 3) := by decide +kernel
theorem dX12_takeOut_50 : decode cX12_takeOut 50 = .ok (.bipush 10, 2) := by decide +kernel
theorem dX12_takeOut_52 : decode cX12_takeOut 52 = .ok (.iload_n 3, 1) := by decide +kernel
theorem dX12_takeOut_53 : decode cX12_takeOut 53 = .ok (.imul, 1) := by decide +kernel
theorem dX12_takeOut_54 : decode cX12_takeOut 54 = .ok (.iload 4, 2) := by decide +kernel
theorem dX12_takeOut_56 : decode cX12_takeOut 56 = .ok (.iadd, 1) := by decide +kernel
theorem dX12_takeOut_57 : decode cX12_takeOut 57 = .ok (.iload 6, 2) := by decide +kernel
theorem dX12_takeOut_59 : decode cX12_takeOut 59 = .ok (.iastore, 1) := by decide +kernel
theorem dX12_takeOut_60 : decode cX12_takeOut 60 = .ok (.iinc 4 1, 3) := by decide +kernel
theorem dX12_takeOut_63 : decode cX12_takeOut 63 = .ok (.iinc 5 1, 3) := by decide +kernel
theorem dX12_takeOut_66 : decode cX12_takeOut 66 = .ok (.goto (-54), 3) := by decide +kernel
theorem dX12_takeOut_69 : decode cX12_takeOut 69 = .ok (.aload_n 0, 1) := by decide +kernel
theorem dX12_takeOut_70 : decode cX12_takeOut 70 = .ok (.getfield 81, 3) := by decide +kernel
theorem dX12_takeOut_73 : decode cX12_takeOut 73 = .ok (.bipush 10, 2) := by decide +kernel
theorem dX12_takeOut_75 : decode cX12_takeOut 75 = .ok (.iload_n 3, 1) := by decide +kernel
theorem dX12_takeOut_76 : decode cX12_takeOut 76 = .ok (.imul, 1) := by decide +kernel
theorem dX12_takeOut_77 : decode cX12_takeOut 77 = .ok (.iload 4, 2) := by decide +kernel
theorem dX12_takeOut_79 : decode cX12_takeOut 79 = .ok (.iadd, 1) := by decide +kernel
theorem dX12_takeOut_80 : decode cX12_takeOut 80 = .ok (.iconst (-1), 1) := by decide +kernel
theorem dX12_takeOut_81 : decode cX12_takeOut 81 = .ok (.iastore, 1) := by decide +kernel
theorem dX12_takeOut_82 : decode cX12_takeOut 82 = .ok (.aload_n 0, 1) := by decide +kernel
theorem dX12_takeOut_83 : decode cX12_takeOut 83 = .ok (.getfield 78, 3) := by decide +kernel
theorem dX12_takeOut_86 : decode cX12_takeOut 86 = .ok (.iload_n 3, 1) := by decide +kernel
theorem dX12_takeOut_87 : decode cX12_takeOut 87 = .ok (.iload 4, 2) := by decide +kernel
theorem dX12_takeOut_89 : decode cX12_takeOut 89 = .ok (.iastore, 1) := by decide +kernel
theorem dX12_takeOut_90 : decode cX12_takeOut 90 = .ok (.aload_n 0, 1) := by decide +kernel
theorem dX12_takeOut_91 : decode cX12_takeOut 91 = .ok (.getfield 72, 3) := by decide +kernel
theorem dX12_takeOut_94 : decode cX12_takeOut 94 = .ok (.iload_n 1, 1) := by decide +kernel
theorem dX12_takeOut_95 : decode cX12_takeOut 95 = .ok (.iload_n 2, 1) := by decide +kernel
theorem dX12_takeOut_96 : decode cX12_takeOut 96 = .ok (.iastore, 1) := by decide +kernel
theorem dX12_takeOut_97 : decode cX12_takeOut 97 = .ok (.return_, 1) := by decide +kernel
theorem dX12_isFeud_0 : decode cX12_isFeud 0 = .ok (.aload_n 0, 1) := by decide +kernel
theorem dX12_isFeud_1 : decode cX12_isFeud 1 = .ok (.getfield 84, 3) := by decide +kernel
theorem dX12_isFeud_4 : decode cX12_isFeud 4 = .ok (.aload_n 0, 1) := by decide +kernel
theorem dX12_isFeud_5 : decode cX12_isFeud 5 = .ok (.getfield 46, 3) := by decide +kernel
theorem dX12_isFeud_8 : decode cX12_isFeud 8 = .ok (.iload_n 1, 1) := by decide +kernel
theorem dX12_isFeud_9 : decode cX12_isFeud 9 = .ok (.iaload, 1) := by decide +kernel
theorem dX12_isFeud_10 : decode cX12_isFeud 10 = .ok (.iaload, 1) := by decide +kernel
theorem dX12_isFeud_11 : decode cX12_isFeud 11 = .ok (.aload_n 0, 1) := by decide +kernel
theorem dX12_isFeud_12 : decode cX12_isFeud 12 = .ok (.getfield 46, 3) := by decide +kernel
theorem dX12_isFeud_15 : decode cX12_isFeud 15 = .ok (.iload_n 2, 1) := by decide +kernel
theorem dX12_isFeud_16 : decode cX12_isFeud 16 = .ok (.iaload, 1) := by decide +kernel
theorem dX12_isFeud_17 : decode cX12_isFeud 17 = .ok (.invokestatic 284, 3) := by decide +kernel
theorem dX12_isFeud_20 : decode cX12_isFeud 20 = .ok (.ireturn, 1) := by decide +kernel
theorem dX12_foesOf_0 : decode cX12_foesOf 0 = .ok (.aload_n 0, 1) := by decide +kernel
theorem dX12_foesOf_1 : decode cX12_foesOf 1 = .ok (.getfield 72, 3) := by decide +kernel
theorem dX12_foesOf_4 : decode cX12_foesOf 4 = .ok (.iload_n 1, 1) := by decide +kernel
theorem dX12_foesOf_5 : decode cX12_foesOf 5 = .ok (.iaload, 1) := by decide +kernel
theorem dX12_foesOf_6 : decode cX12_foesOf 6 = .ok (.iconst 2, 1) := by decide +kernel
theorem dX12_foesOf_7 : decode cX12_foesOf 7 = .ok (.if_icmp .ne 7, 3) := by decide +kernel
theorem dX12_foesOf_10 : decode cX12_foesOf 10 = .ok (.iconst 0, 1) := by decide +kernel
theorem dX12_foesOf_11 : decode cX12_foesOf 11 = .ok (.goto 29, 3) := by decide +kernel
theorem dX12_foesOf_14 : decode cX12_foesOf 14 = .ok (.aload_n 0, 1) := by decide +kernel
theorem dX12_foesOf_15 : decode cX12_foesOf 15 = .ok (.getfield 72, 3) := by decide +kernel
theorem dX12_foesOf_18 : decode cX12_foesOf 18 = .ok (.iload_n 1, 1) := by decide +kernel
theorem dX12_foesOf_19 : decode cX12_foesOf 19 = .ok (.iaload, 1) := by decide +kernel
theorem dX12_foesOf_20 : decode cX12_foesOf 20 = .ok (.ifCond .ne 11, 3) := by decide +kernel
theorem dX12_foesOf_23 : decode cX12_foesOf 23 = .ok (.aload_n 0, 1) := by decide +kernel
theorem dX12_foesOf_24 : decode cX12_foesOf 24 = .ok (.iconst 0, 1) := by decide +kernel
theorem dX12_foesOf_25 : decode cX12_foesOf 25 = .ok (.invokevirtual 348, 3) := by decide +kernel
theorem dX12_foesOf_28 : decode cX12_foesOf 28 = .ok (.goto 12, 3) := by decide +kernel
theorem dX12_foesOf_31 : decode cX12_foesOf 31 = .ok (.aload_n 0, 1) := by decide +kernel
theorem dX12_foesOf_32 : decode cX12_foesOf 32 = .ok (.aload_n 0, 1) := by decide +kernel
theorem dX12_foesOf_33 : decode cX12_foesOf 33 = .ok (.iload_n 1, 1) := by decide +kernel
theorem dX12_foesOf_34 : decode cX12_foesOf 34 = .ok (.invokevirtual 339, 3) := by decide +kernel
theorem dX12_foesOf_37 : decode cX12_foesOf 37 = .ok (.invokevirtual 342, 3) := by decide +kernel
theorem dX12_foesOf_40 : decode cX12_foesOf 40 = .ok (.istore_n 2, 1) := by decide +kernel
theorem dX12_foesOf_41 : decode cX12_foesOf 41 = .ok (.iconst 0, 1) := by decide +kernel
theorem dX12_foesOf_42 : decode cX12_foesOf 42 = .ok (.istore_n 3, 1) := by decide +kernel
theorem dX12_foesOf_43 : decode cX12_foesOf 43 = .ok (.iconst 0, 1) := by decide +kernel
theorem dX12_foesOf_44 : decode cX12_foesOf 44 = .ok (.istore 4, 2) := by decide +kernel
theorem dX12_foesOf_46 : decode cX12_foesOf 46 = .ok (.iload 4, 2) := by decide +kernel
theorem dX12_foesOf_48 : decode cX12_foesOf 48 = .ok (.aload_n 0, 1) := by decide +kernel
theorem dX12_foesOf_49 : decode cX12_foesOf 49 = .ok (.getfield 33, 3) := by decide +kernel
theorem dX12_foesOf_52 : decode cX12_foesOf 52 = .ok (.iconst 2, 1) := by decide +kernel
theorem dX12_foesOf_53 : decode cX12_foesOf 53 = .ok (.iaload, 1) := by decide +kernel
theorem dX12_foesOf_54 : decode cX12_foesOf 54 = .ok (.if_icmp .ge 36, 3) := by decide +kernel
theorem dX12_foesOf_57 : decode cX12_foesOf 57 = .ok (.iload_n 3, 1) := by decide +kernel
theorem dX12_foesOf_58 : decode cX12_foesOf 58 = .ok (.iload_n 2, 1) := by decide +kernel
theorem dX12_foesOf_59 : decode cX12_foesOf 59 = .ok (.iload 4, 2) := by decide +kernel
theorem dX12_foesOf_61 : decode cX12_foesOf 61 = .ok (.invokestatic 284, 3) := by decide +kernel
theorem dX12_foesOf_64 : decode cX12_foesOf 64 = .ok (.ifCond .eq 17, 3) := by decide +kernel
theorem dX12_foesOf_67 : decode cX12_foesOf 67 = .ok (.aload_n 0, 1) := by decide +kernel
theorem dX12_foesOf_68 : decode cX12_foesOf 68 = .ok (.iload_n 1, 1) := by decide +kernel
theorem dX12_foesOf_69 : decode cX12_foesOf 69 = .ok (.iload 4, 2) := by decide +kernel
theorem dX12_foesOf_71 : decode cX12_foesOf 71 = .ok (.invokevirtual 351, 3) := by decide +kernel
theorem dX12_foesOf_74 : decode cX12_foesOf 74 = .ok (.ifCond .eq 7, 3) := by decide +kernel
theorem dX12_foesOf_77 : decode cX12_foesOf 77 = .ok (.iconst 1, 1) := by decide +kernel
theorem dX12_foesOf_78 : decode cX12_foesOf 78 = .ok (.goto 4, 3) := by decide +kernel
theorem dX12_foesOf_81 : decode cX12_foesOf 81 = .ok (.iconst 0, 1) := by decide +kernel
theorem dX12_foesOf_82 : decode cX12_foesOf 82 = .ok (.iadd, 1) := by decide +kernel
theorem dX12_foesOf_83 : decode cX12_foesOf 83 = .ok (.istore_n 3, 1) := by decide +kernel
theorem dX12_foesOf_84 : decode cX12_foesOf 84 = .ok (.iinc 4 1, 3) := by decide +kernel
theorem dX12_foesOf_87 : decode cX12_foesOf 87 = .ok (.goto (-41), 3) := by decide +kernel
theorem dX12_foesOf_90 : decode cX12_foesOf 90 = .ok (.iload_n 3, 1) := by decide +kernel
theorem dX12_foesOf_91 : decode cX12_foesOf 91 = .ok (.ireturn, 1) := by decide +kernel
theorem dX12_reckon_0 : decode cX12_reckon 0 = .ok (.iload_n 0, 1) := by decide +kernel
theorem dX12_reckon_1 : decode cX12_reckon 1 = .ok (.tableswitch 103 (-26) (-20) #[89, 78, 67, 55, 51, 47, 43], 43) := by decide +kernel
theorem dX12_reckon_44 : decode cX12_reckon 44 = .ok (.iload_n 1, 1) := by decide +kernel
theorem dX12_reckon_45 : decode cX12_reckon 45 = .ok (.iload_n 2, 1) := by decide +kernel
theorem dX12_reckon_46 : decode cX12_reckon 46 = .ok (.iadd, 1) := by decide +kernel
theorem dX12_reckon_47 : decode cX12_reckon 47 = .ok (.ireturn, 1) := by decide +kernel
theorem dX12_reckon_48 : decode cX12_reckon 48 = .ok (.iload_n 1, 1) := by decide +kernel
theorem dX12_reckon_49 : decode cX12_reckon 49 = .ok (.iload_n 2, 1) := by decide +kernel
theorem dX12_reckon_50 : decode cX12_reckon 50 = .ok (.isub, 1) := by decide +kernel
theorem dX12_reckon_51 : decode cX12_reckon 51 = .ok (.ireturn, 1) := by decide +kernel
theorem dX12_reckon_52 : decode cX12_reckon 52 = .ok (.iload_n 1, 1) := by decide +kernel
theorem dX12_reckon_53 : decode cX12_reckon 53 = .ok (.iload_n 2, 1) := by decide +kernel
theorem dX12_reckon_54 : decode cX12_reckon 54 = .ok (.imul, 1) := by decide +kernel
theorem dX12_reckon_55 : decode cX12_reckon 55 = .ok (.ireturn, 1) := by decide +kernel
theorem dX12_reckon_56 : decode cX12_reckon 56 = .ok (.iload_n 2, 1) := by decide +kernel
theorem dX12_reckon_57 : decode cX12_reckon 57 = .ok (.ifCond .ne 7, 3) := by decide +kernel
theorem dX12_reckon_60 : decode cX12_reckon 60 = .ok (.iconst 0, 1) := by decide +kernel
theorem dX12_reckon_61 : decode cX12_reckon 61 = .ok (.goto 6, 3) := by decide +kernel
theorem dX12_reckon_64 : decode cX12_reckon 64 = .ok (.iload_n 1, 1) := by decide +kernel
theorem dX12_reckon_65 : decode cX12_reckon 65 = .ok (.iload_n 2, 1) := by decide +kernel
theorem dX12_reckon_66 : decode cX12_reckon 66 = .ok (.idiv, 1) := by decide +kernel
theorem dX12_reckon_67 : decode cX12_reckon 67 = .ok (.ireturn, 1) := by decide +kernel
theorem dX12_reckon_68 : decode cX12_reckon 68 = .ok (.iload_n 1, 1) := by decide +kernel
theorem dX12_reckon_69 : decode cX12_reckon 69 = .ok (.iload_n 2, 1) := by decide +kernel
theorem dX12_reckon_70 : decode cX12_reckon 70 = .ok (.if_icmp .ge 7, 3) := by decide +kernel
theorem dX12_reckon_73 : decode cX12_reckon 73 = .ok (.iconst 1, 1) := by decide +kernel
theorem dX12_reckon_74 : decode cX12_reckon 74 = .ok (.goto 4, 3) := by decide +kernel
theorem dX12_reckon_77 : decode cX12_reckon 77 = .ok (.iconst 0, 1) := by decide +kernel
theorem dX12_reckon_78 : decode cX12_reckon 78 = .ok (.ireturn, 1) := by decide +kernel
theorem dX12_reckon_79 : decode cX12_reckon 79 = .ok (.iload_n 1, 1) := by decide +kernel
theorem dX12_reckon_80 : decode cX12_reckon 80 = .ok (.iload_n 2, 1) := by decide +kernel
theorem dX12_reckon_81 : decode cX12_reckon 81 = .ok (.if_icmp .ne 7, 3) := by decide +kernel
theorem dX12_reckon_84 : decode cX12_reckon 84 = .ok (.iconst 1, 1) := by decide +kernel
theorem dX12_reckon_85 : decode cX12_reckon 85 = .ok (.goto 4, 3) := by decide +kernel
theorem dX12_reckon_88 : decode cX12_reckon 88 = .ok (.iconst 0, 1) := by decide +kernel
theorem dX12_reckon_89 : decode cX12_reckon 89 = .ok (.ireturn, 1) := by decide +kernel
theorem dX12_reckon_90 : decode cX12_reckon 90 = .ok (.iload_n 1, 1) := by decide +kernel
theorem dX12_reckon_91 : decode cX12_reckon 91 = .ok (.ifCond .eq 11, 3) := by decide +kernel
theorem dX12_reckon_94 : decode cX12_reckon 94 = .ok (.iload_n 2, 1) := by decide +kernel
theorem dX12_reckon_95 : decode cX12_reckon 95 = .ok (.ifCond .eq 7, 3) := by decide +kernel
theorem dX12_reckon_98 : decode cX12_reckon 98 = .ok (.iconst 1, 1) := by decide +kernel
theorem dX12_reckon_99 : decode cX12_reckon 99 = .ok (.goto 4, 3) := by decide +kernel
theorem dX12_reckon_102 : decode cX12_reckon 102 = .ok (.iconst 0, 1) := by decide +kernel
theorem dX12_reckon_103 : decode cX12_reckon 103 = .ok (.ireturn, 1) := by decide +kernel
theorem dX12_reckon_104 : decode cX12_reckon 104 = .ok (.iload_n 1, 1) := by decide +kernel
theorem dX12_reckon_105 : decode cX12_reckon 105 = .ok (.ifCond .ne 7, 3) := by decide +kernel
theorem dX12_reckon_108 : decode cX12_reckon 108 = .ok (.iload_n 2, 1) := by decide +kernel
theorem dX12_reckon_109 : decode cX12_reckon 109 = .ok (.ifCond .eq 7, 3) := by decide +kernel
theorem dX12_reckon_112 : decode cX12_reckon 112 = .ok (.iconst 1, 1) := by decide +kernel
theorem dX12_reckon_113 : decode cX12_reckon 113 = .ok (.goto 4, 3) := by decide +kernel
theorem dX12_reckon_116 : decode cX12_reckon 116 = .ok (.iconst 0, 1) := by decide +kernel
theorem dX12_reckon_117 : decode cX12_reckon 117 = .ok (.ireturn, 1) := by decide +kernel
theorem dX12_valueNow_0 : decode cX12_valueNow 0 = .ok (.iconst 0, 1) := by decide +kernel
theorem dX12_valueNow_1 : decode cX12_valueNow 1 = .ok (.istore_n 3, 1) := by decide +kernel
theorem dX12_valueNow_2 : decode cX12_valueNow 2 = .ok (.iconst 0, 1) := by decide +kernel
theorem dX12_valueNow_3 : decode cX12_valueNow 3 = .ok (.istore 4, 2) := by decide +kernel
theorem dX12_valueNow_5 : decode cX12_valueNow 5 = .ok (.iload 4, 2) := by decide +kernel
theorem dX12_valueNow_7 : decode cX12_valueNow 7 = .ok (.iload_n 2, 1) := by decide +kernel
theorem dX12_valueNow_8 : decode cX12_valueNow 8 = .ok (.if_icmp .ge 117, 3) := by decide +kernel
theorem dX12_valueNow_11 : decode cX12_valueNow 11 = .ok (.aload_n 1, 1) := by decide +kernel
theorem dX12_valueNow_12 : decode cX12_valueNow 12 = .ok (.iload 4, 2) := by decide +kernel
theorem dX12_valueNow_14 : decode cX12_valueNow 14 = .ok (.iaload, 1) := by decide +kernel
theorem dX12_valueNow_15 : decode cX12_valueNow 15 = .ok (.istore 5, 2) := by decide +kernel
theorem dX12_valueNow_17 : decode cX12_valueNow 17 = .ok (.iload 5, 2) := by decide +kernel
theorem dX12_valueNow_19 : decode cX12_valueNow 19 = .ok (.bipush (-20), 2) := by decide +kernel
theorem dX12_valueNow_21 : decode cX12_valueNow 21 = .ok (.if_icmp .le 34, 3) := by decide +kernel
theorem dX12_valueNow_24 : decode cX12_valueNow 24 = .ok (.aload_n 0, 1) := by decide +kernel
theorem dX12_valueNow_25 : decode cX12_valueNow 25 = .ok (.getfield 93, 3) := by decide +kernel
theorem dX12_valueNow_28 : decode cX12_valueNow 28 = .ok (.iload_n 3, 1) := by decide +kernel
theorem dX12_valueNow_29 : decode cX12_valueNow 29 = .ok (.iload 5, 2) := by decide +kernel
theorem dX12_valueNow_31 : decode cX12_valueNow 31 = .ok (.ifCond .lt 8, 3) := by decide +kernel
theorem dX12_valueNow_34 : decode cX12_valueNow 34 = .ok (.iload 5, 2) := by decide +kernel
theorem dX12_valueNow_36 : decode cX12_valueNow 36 = .ok (.goto 12, 3) := by decide +kernel
theorem dX12_valueNow_39 : decode cX12_valueNow 39 = .ok (.aload_n 0, 1) := by decide +kernel
theorem dX12_valueNow_40 : decode cX12_valueNow 40 = .ok (.getfield 90, 3) := by decide +kernel
theorem dX12_valueNow_43 : decode cX12_valueNow 43 = .ok (.iconst (-1), 1) := by decide +kernel
theorem dX12_valueNow_44 : decode cX12_valueNow 44 = .ok (.iload 5, 2) := by decide +kernel
theorem dX12_valueNow_46 : decode cX12_valueNow 46 = .ok (.isub, 1) := by decide +kernel
theorem dX12_valueNow_47 : decode cX12_valueNow 47 = .ok (.iaload, 1) := by decide +kernel
theorem dX12_valueNow_48 : decode cX12_valueNow 48 = .ok (.iastore, 1) := by decide +kernel
theorem dX12_valueNow_49 : decode cX12_valueNow 49 = .ok (.iinc 3 1, 3) := by decide +kernel
theorem dX12_valueNow_52 : decode cX12_valueNow 52 = .ok (.goto 67, 3) := by decide +kernel
theorem dX12_valueNow_55 : decode cX12_valueNow 55 = .ok (.iload 5, 2) := by decide +kernel
theorem dX12_valueNow_57 : decode cX12_valueNow 57 = .ok (.bipush (-28), 2) := by decide +kernel
theorem dX12_valueNow_59 : decode cX12_valueNow 59 = .ok (.if_icmp .ne 30, 3) := by decide +kernel
theorem dX12_valueNow_62 : decode cX12_valueNow 62 = .ok (.aload_n 0, 1) := by decide +kernel
theorem dX12_valueNow_63 : decode cX12_valueNow 63 = .ok (.getfield 93, 3) := by decide +kernel
theorem dX12_valueNow_66 : decode cX12_valueNow 66 = .ok (.iload_n 3, 1) := by decide +kernel
theorem dX12_valueNow_67 : decode cX12_valueNow 67 = .ok (.iconst 1, 1) := by decide +kernel
theorem dX12_valueNow_68 : decode cX12_valueNow 68 = .ok (.isub, 1) := by decide +kernel
theorem dX12_valueNow_69 : decode cX12_valueNow 69 = .ok (.aload_n 0, 1) := by decide +kernel
theorem dX12_valueNow_70 : decode cX12_valueNow 70 = .ok (.getfield 93, 3) := by decide +kernel
theorem dX12_valueNow_73 : decode cX12_valueNow 73 = .ok (.iload_n 3, 1) := by decide +kernel
theorem dX12_valueNow_74 : decode cX12_valueNow 74 = .ok (.iconst 1, 1) := by decide +kernel
theorem dX12_valueNow_75 : decode cX12_valueNow 75 = .ok (.isub, 1) := by decide +kernel
theorem dX12_valueNow_76 : decode cX12_valueNow 76 = .ok (.iaload, 1) := by decide +kernel
theorem dX12_valueNow_77 : decode cX12_valueNow 77 = .ok (.ifCond .eq 7, 3) := by decide +kernel
theorem dX12_valueNow_80 : decode cX12_valueNow 80 = .ok (.iconst 0, 1) := by decide +kernel
theorem dX12_valueNow_81 : decode cX12_valueNow 81 = .ok (.goto 4, 3) := by decide +kernel
theorem dX12_valueNow_84 : decode cX12_valueNow 84 = .ok (.iconst 1, 1) := by decide +kernel
theorem dX12_valueNow_85 : decode cX12_valueNow 85 = .ok (.iastore, 1) := by decide +kernel
theorem dX12_valueNow_86 : decode cX12_valueNow 86 = .ok (.goto 33, 3) := by decide +kernel
theorem dX12_valueNow_89 : decode cX12_valueNow 89 = .ok (.iinc 3 (-1), 3) := by decide +kernel
theorem dX12_valueNow_92 : decode cX12_valueNow 92 = .ok (.aload_n 0, 1) := by decide +kernel
theorem dX12_valueNow_93 : decode cX12_valueNow 93 = .ok (.getfield 93, 3) := by decide +kernel
theorem dX12_valueNow_96 : decode cX12_valueNow 96 = .ok (.iload_n 3, 1) := by decide +kernel
theorem dX12_valueNow_97 : decode cX12_valueNow 97 = .ok (.iconst 1, 1) := by decide +kernel
theorem dX12_valueNow_98 : decode cX12_valueNow 98 = .ok (.isub, 1) := by decide +kernel
theorem dX12_valueNow_99 : decode cX12_valueNow 99 = .ok (.iload 5, 2) := by decide +kernel
theorem dX12_valueNow_101 : decode cX12_valueNow 101 = .ok (.aload_n 0, 1) := by decide +kernel
theorem dX12_valueNow_102 : decode cX12_valueNow 102 = .ok (.getfield 93, 3) := by decide +kernel
theorem dX12_valueNow_105 : decode cX12_valueNow 105 = .ok (.iload_n 3, 1) := by decide +kernel
theorem dX12_valueNow_106 : decode cX12_valueNow 106 = .ok (.iconst 1, 1) := by decide +kernel
theorem dX12_valueNow_107 : decode cX12_valueNow 107 = .ok (.isub, 1) := by decide +kernel
theorem dX12_valueNow_108 : decode cX12_valueNow 108 = .ok (.iaload, 1) := by decide +kernel
theorem dX12_valueNow_109 : decode cX12_valueNow 109 = .ok (.aload_n 0, 1) := by decide +kernel
theorem dX12_valueNow_110 : decode cX12_valueNow 110 = .ok (.getfield 93, 3) := by decide +kernel
theorem dX12_valueNow_113 : decode cX12_valueNow 113 = .ok (.iload_n 3, 1) := by decide +kernel
theorem dX12_valueNow_114 : decode cX12_valueNow 114 = .ok (.iaload, 1) := by decide +kernel
theorem dX12_valueNow_115 : decode cX12_valueNow 115 = .ok (.invokestatic 354, 3) := by decide +kernel
theorem dX12_valueNow_118 : decode cX12_valueNow 118 = .ok (.iastore, 1) := by decide +kernel
theorem dX12_valueNow_119 : decode cX12_valueNow 119 = .ok (.iinc 4 1, 3) := by decide +kernel
theorem dX12_valueNow_122 : decode cX12_valueNow 122 = .ok (.goto (-117), 3) := by decide +kernel
theorem dX12_valueNow_125 : decode cX12_valueNow 125 = .ok (.aload_n 0, 1) := by decide +kernel
theorem dX12_valueNow_126 : decode cX12_valueNow 126 = .ok (.getfield 93, 3) := by decide +kernel
theorem dX12_valueNow_129 : decode cX12_valueNow 129 = .ok (.iconst 0, 1) := by decide +kernel
theorem dX12_valueNow_130 : decode cX12_valueNow 130 = .ok (.iaload, 1) := by decide +kernel
theorem dX12_valueNow_131 : decode cX12_valueNow 131 = .ok (.ireturn, 1) := by decide +kernel
theorem dX12_changeOf_0 : decode cX12_changeOf 0 = .ok (.aload_n 0, 1) := by decide +kernel
theorem dX12_changeOf_1 : decode cX12_changeOf 1 = .ok (.getfield 72, 3) := by decide +kernel
theorem dX12_changeOf_4 : decode cX12_changeOf 4 = .ok (.iload_n 1, 1) := by decide +kernel
theorem dX12_changeOf_5 : decode cX12_changeOf 5 = .ok (.iaload, 1) := by decide +kernel
theorem dX12_changeOf_6 : decode cX12_changeOf 6 = .ok (.iconst 2, 1) := by decide +kernel
theorem dX12_changeOf_7 : decode cX12_changeOf 7 = .ok (.if_icmp .ne 5, 3) := by decide +kernel
theorem dX12_changeOf_10 : decode cX12_changeOf 10 = .ok (.iconst 0, 1) := by decide +kernel
theorem dX12_changeOf_11 : decode cX12_changeOf 11 = .ok (.ireturn, 1) := by decide +kernel
theorem dX12_changeOf_12 : decode cX12_changeOf 12 = .ok (.aload_n 0, 1) := by decide +kernel
theorem dX12_changeOf_13 : decode cX12_changeOf 13 = .ok (.getfield 72, 3) := by decide +kernel
theorem dX12_changeOf_16 : decode cX12_changeOf 16 = .ok (.iload_n 1, 1) := by decide +kernel
theorem dX12_changeOf_17 : decode cX12_changeOf 17 = .ok (.iaload, 1) := by decide +kernel
theorem dX12_changeOf_18 : decode cX12_changeOf 18 = .ok (.iconst 1, 1) := by decide +kernel
theorem dX12_changeOf_19 : decode cX12_changeOf 19 = .ok (.if_icmp .ne 7, 3) := by decide +kernel
theorem dX12_changeOf_22 : decode cX12_changeOf 22 = .ok (.iconst 1, 1) := by decide +kernel
theorem dX12_changeOf_23 : decode cX12_changeOf 23 = .ok (.goto 4, 3) := by decide +kernel
theorem dX12_changeOf_26 : decode cX12_changeOf 26 = .ok (.iconst 0, 1) := by decide +kernel
theorem dX12_changeOf_27 : decode cX12_changeOf 27 = .ok (.istore_n 2, 1) := by decide +kernel
theorem dX12_changeOf_28 : decode cX12_changeOf 28 = .ok (.aload_n 0, 1) := by decide +kernel
theorem dX12_changeOf_29 : decode cX12_changeOf 29 = .ok (.iload_n 1, 1) := by decide +kernel
theorem dX12_changeOf_30 : decode cX12_changeOf 30 = .ok (.invokevirtual 358, 3) := by decide +kernel
theorem dX12_changeOf_33 : decode cX12_changeOf 33 = .ok (.istore_n 3, 1) := by decide +kernel
theorem dX12_changeOf_34 : decode cX12_changeOf 34 = .ok (.aload_n 0, 1) := by decide +kernel
theorem dX12_changeOf_35 : decode cX12_changeOf 35 = .ok (.getfield 33, 3) := by decide +kernel
theorem dX12_changeOf_38 : decode cX12_changeOf 38 = .ok (.iload_n 2, 1) := by decide +kernel
theorem dX12_changeOf_39 : decode cX12_changeOf 39 = .ok (.ifCond .eq 7, 3) := by decide +kernel
theorem dX12_changeOf_42 : decode cX12_changeOf 42 = .ok (.iconst 4, 1) := by decide +kernel
theorem dX12_changeOf_43 : decode cX12_changeOf 43 = .ok (.goto 4, 3) := by decide +kernel
theorem dX12_changeOf_46 : decode cX12_changeOf 46 = .ok (.iconst 5, 1) := by decide +kernel
theorem dX12_changeOf_47 : decode cX12_changeOf 47 = .ok (.iaload, 1) := by decide +kernel
theorem dX12_changeOf_48 : decode cX12_changeOf 48 = .ok (.ifCond .ne 15, 3) := by decide +kernel
theorem dX12_changeOf_51 : decode cX12_changeOf 51 = .ok (.iload_n 2, 1) := by decide +kernel
theorem dX12_changeOf_52 : decode cX12_changeOf 52 = .ok (.ifCond .eq 9, 3) := by decide +kernel
theorem dX12_changeOf_55 : decode cX12_changeOf 55 = .ok (.iconst 2, 1) := by decide +kernel
theorem dX12_changeOf_56 : decode cX12_changeOf 56 = .ok (.iload_n 3, 1) := by decide +kernel
theorem dX12_changeOf_57 : decode cX12_changeOf 57 = .ok (.iadd, 1) := by decide +kernel
theorem dX12_changeOf_58 : decode cX12_changeOf 58 = .ok (.goto 4, 3) := by decide +kernel
theorem dX12_changeOf_61 : decode cX12_changeOf 61 = .ok (.iload_n 3, 1) := by decide +kernel
theorem dX12_changeOf_62 : decode cX12_changeOf 62 = .ok (.ireturn, 1) := by decide +kernel
theorem dX12_changeOf_63 : decode cX12_changeOf 63 = .ok (.aload_n 0, 1) := by decide +kernel
theorem dX12_changeOf_64 : decode cX12_changeOf 64 = .ok (.getfield 90, 3) := by decide +kernel
theorem dX12_changeOf_67 : decode cX12_changeOf 67 = .ok (.iconst 0, 1) := by decide +kernel
theorem dX12_changeOf_68 : decode cX12_changeOf 68 = .ok (.aload_n 0, 1) := by decide +kernel
theorem dX12_changeOf_69 : decode cX12_changeOf 69 = .ok (.getfield 70, 3) := by decide +kernel
theorem dX12_changeOf_72 : decode cX12_changeOf 72 = .ok (.iload_n 1, 1) := by decide +kernel
theorem dX12_changeOf_73 : decode cX12_changeOf 73 = .ok (.iaload, 1) := by decide +kernel
theorem dX12_changeOf_74 : decode cX12_changeOf 74 = .ok (.iastore, 1) := by decide +kernel
theorem dX12_changeOf_75 : decode cX12_changeOf 75 = .ok (.aload_n 0, 1) := by decide +kernel
theorem dX12_changeOf_76 : decode cX12_changeOf 76 = .ok (.getfield 90, 3) := by decide +kernel
theorem dX12_changeOf_79 : decode cX12_changeOf 79 = .ok (.iconst 1, 1) := by decide +kernel
theorem dX12_changeOf_80 : decode cX12_changeOf 80 = .ok (.aload_n 0, 1) := by decide +kernel
theorem dX12_changeOf_81 : decode cX12_changeOf 81 = .ok (.getfield 49, 3) := by decide +kernel
theorem dX12_changeOf_84 : decode cX12_changeOf 84 = .ok (.iload_n 1, 1) := by decide +kernel
theorem dX12_changeOf_85 : decode cX12_changeOf 85 = .ok (.iaload, 1) := by decide +kernel
theorem dX12_changeOf_86 : decode cX12_changeOf 86 = .ok (.iastore, 1) := by decide +kernel
theorem dX12_changeOf_87 : decode cX12_changeOf 87 = .ok (.aload_n 0, 1) := by decide +kernel
theorem dX12_changeOf_88 : decode cX12_changeOf 88 = .ok (.getfield 90, 3) := by decide +kernel
theorem dX12_changeOf_91 : decode cX12_changeOf 91 = .ok (.iconst 2, 1) := by decide +kernel
theorem dX12_changeOf_92 : decode cX12_changeOf 92 = .ok (.aload_n 0, 1) := by decide +kernel
theorem dX12_changeOf_93 : decode cX12_changeOf 93 = .ok (.getfield 325, 3) := by decide +kernel
theorem dX12_changeOf_96 : decode cX12_changeOf 96 = .ok (.iastore, 1) := by decide +kernel
theorem dX12_changeOf_97 : decode cX12_changeOf 97 = .ok (.aload_n 0, 1) := by decide +kernel
theorem dX12_changeOf_98 : decode cX12_changeOf 98 = .ok (.getfield 90, 3) := by decide +kernel
theorem dX12_changeOf_101 : decode cX12_changeOf 101 = .ok (.iconst 3, 1) := by decide +kernel
theorem dX12_changeOf_102 : decode cX12_changeOf 102 = .ok (.iload_n 3, 1) := by decide +kernel
theorem dX12_changeOf_103 : decode cX12_changeOf 103 = .ok (.iastore, 1) := by decide +kernel
theorem dX12_changeOf_104 : decode cX12_changeOf 104 = .ok (.aload_n 0, 1) := by decide +kernel
theorem dX12_changeOf_105 : decode cX12_changeOf 105 = .ok (.getfield 90, 3) := by decide +kernel
theorem dX12_changeOf_108 : decode cX12_changeOf 108 = .ok (.iconst 4, 1) := by decide +kernel
theorem dX12_changeOf_109 : decode cX12_changeOf 109 = .ok (.iload_n 2, 1) := by decide +kernel
theorem dX12_changeOf_110 : decode cX12_changeOf 110 = .ok (.ifCond .eq 18, 3) := by decide +kernel
theorem dX12_changeOf_113 : decode cX12_changeOf 113 = .ok (.aload_n 0, 1) := by decide +kernel
theorem dX12_changeOf_114 : decode cX12_changeOf 114 = .ok (.getfield 78, 3) := by decide +kernel
theorem dX12_changeOf_117 : decode cX12_changeOf 117 = .ok (.aload_n 0, 1) := by decide +kernel
theorem dX12_changeOf_118 : decode cX12_changeOf 118 = .ok (.iload_n 1, 1) := by decide +kernel
theorem dX12_changeOf_119 : decode cX12_changeOf 119 = .ok (.invokevirtual 339, 3) := by decide +kernel
theorem dX12_changeOf_122 : decode cX12_changeOf 122 = .ok (.iaload, 1) := by decide +kernel
theorem dX12_changeOf_123 : decode cX12_changeOf 123 = .ok (.iconst 1, 1) := by decide +kernel
theorem dX12_changeOf_124 : decode cX12_changeOf 124 = .ok (.isub, 1) := by decide +kernel
theorem dX12_changeOf_125 : decode cX12_changeOf 125 = .ok (.goto 4, 3) := by decide +kernel
theorem dX12_changeOf_128 : decode cX12_changeOf 128 = .ok (.iconst 0, 1) := by decide +kernel
theorem dX12_changeOf_129 : decode cX12_changeOf 129 = .ok (.iastore, 1) := by decide +kernel
theorem dX12_changeOf_130 : decode cX12_changeOf 130 = .ok (.aload_n 0, 1) := by decide +kernel
theorem dX12_changeOf_131 : decode cX12_changeOf 131 = .ok (.getfield 90, 3) := by decide +kernel
theorem dX12_changeOf_134 : decode cX12_changeOf 134 = .ok (.iconst 5, 1) := by decide +kernel
theorem dX12_changeOf_135 : decode cX12_changeOf 135 = .ok (.aload_n 0, 1) := by decide +kernel
theorem dX12_changeOf_136 : decode cX12_changeOf 136 = .ok (.iload_n 1, 1) := by decide +kernel
theorem dX12_changeOf_137 : decode cX12_changeOf 137 = .ok (.invokevirtual 361, 3) := by decide +kernel
theorem dX12_changeOf_140 : decode cX12_changeOf 140 = .ok (.invokestatic 364, 3) := by decide +kernel
theorem dX12_changeOf_143 : decode cX12_changeOf 143 = .ok (.iastore, 1) := by decide +kernel
theorem dX12_changeOf_144 : decode cX12_changeOf 144 = .ok (.iconst 0, 1) := by decide +kernel
theorem dX12_changeOf_145 : decode cX12_changeOf 145 = .ok (.bipush 99, 2) := by decide +kernel
theorem dX12_changeOf_147 : decode cX12_changeOf 147 = .ok (.aload_n 0, 1) := by decide +kernel
theorem dX12_changeOf_148 : decode cX12_changeOf 148 = .ok (.iload_n 2, 1) := by decide +kernel
theorem dX12_changeOf_149 : decode cX12_changeOf 149 = .ok (.ifCond .eq 10, 3) := by decide +kernel
theorem dX12_changeOf_152 : decode cX12_changeOf 152 = .ok (.aload_n 0, 1) := by decide +kernel
theorem dX12_changeOf_153 : decode cX12_changeOf 153 = .ok (.getfield 54, 3) := by decide +kernel
theorem dX12_changeOf_156 : decode cX12_changeOf 156 = .ok (.goto 7, 3) := by decide +kernel
theorem dX12_changeOf_159 : decode cX12_changeOf 159 = .ok (.aload_n 0, 1) := by decide +kernel
theorem dX12_changeOf_160 : decode cX12_changeOf 160 = .ok (.getfield 57, 3) := by decide +kernel
theorem dX12_changeOf_163 : decode cX12_changeOf 163 = .ok (.aload_n 0, 1) := by decide +kernel
theorem dX12_changeOf_164 : decode cX12_changeOf 164 = .ok (.getfield 33, 3) := by decide +kernel
theorem dX12_changeOf_167 : decode cX12_changeOf 167 = .ok (.iload_n 2, 1) := by decide +kernel
theorem dX12_changeOf_168 : decode cX12_changeOf 168 = .ok (.ifCond .eq 7, 3) := by decide +kernel
theorem dX12_changeOf_171 : decode cX12_changeOf 171 = .ok (.iconst 4, 1) := by decide +kernel
theorem dX12_changeOf_172 : decode cX12_changeOf 172 = .ok (.goto 4, 3) := by decide +kernel
theorem dX12_changeOf_175 : decode cX12_changeOf 175 = .ok (.iconst 5, 1) := by decide +kernel
theorem dX12_changeOf_176 : decode cX12_changeOf 176 = .ok (.iaload, 1) := by decide +kernel
theorem dX12_changeOf_177 : decode cX12_changeOf 177 = .ok (.invokevirtual 367, 3) := by decide +kernel
theorem dX12_changeOf_180 : decode cX12_changeOf 180 = .ok (.invokestatic 197, 3) := by decide +kernel
theorem dX12_changeOf_183 : decode cX12_changeOf 183 = .ok (.invokestatic 371, 3) := by decide +kernel
theorem dX12_changeOf_186 : decode cX12_changeOf 186 = .ok (.ireturn, 1) := by decide +kernel
theorem dX12_change_0 : decode cX12_change 0 = .ok (.iconst 0, 1) := by decide +kernel
theorem dX12_change_1 : decode cX12_change 1 = .ok (.istore_n 1, 1) := by decide +kernel
theorem dX12_change_2 : decode cX12_change 2 = .ok (.iload_n 1, 1) := by decide +kernel
theorem dX12_change_3 : decode cX12_change 3 = .ok (.aload_n 0, 1) := by decide +kernel
theorem dX12_change_4 : decode cX12_change 4 = .ok (.getfield 33, 3) := by decide +kernel
theorem dX12_change_7 : decode cX12_change 7 = .ok (.iconst 2, 1) := by decide +kernel
theorem dX12_change_8 : decode cX12_change 8 = .ok (.iaload, 1) := by decide +kernel
theorem dX12_change_9 : decode cX12_change 9 = .ok (.if_icmp .ge 20, 3) := by decide +kernel
theorem dX12_change_12 : decode cX12_change 12 = .ok (.aload_n 0, 1) := by decide +kernel
theorem dX12_change_13 : decode cX12_change 13 = .ok (.getfield 96, 3) := by decide +kernel
theorem dX12_change_16 : decode cX12_change 16 = .ok (.iload_n 1, 1) := by decide +kernel
theorem dX12_change_17 : decode cX12_change 17 = .ok (.aload_n 0, 1) := by decide +kernel
theorem dX12_change_18 : decode cX12_change 18 = .ok (.iload_n 1, 1) := by decide +kernel
theorem dX12_change_19 : decode cX12_change 19 = .ok (.invokevirtual 374, 3) := by decide +kernel
theorem dX12_change_22 : decode cX12_change 22 = .ok (.iastore, 1) := by decide +kernel
theorem dX12_change_23 : decode cX12_change 23 = .ok (.iinc 1 1, 3) := by decide +kernel
theorem dX12_change_26 : decode cX12_change 26 = .ok (.goto (-24), 3) := by decide +kernel
theorem dX12_change_29 : decode cX12_change 29 = .ok (.iconst 0, 1) := by decide +kernel
theorem dX12_change_30 : decode cX12_change 30 = .ok (.istore_n 1, 1) := by decide +kernel
theorem dX12_change_31 : decode cX12_change 31 = .ok (.iload_n 1, 1) := by decide +kernel
theorem dX12_change_32 : decode cX12_change 32 = .ok (.aload_n 0, 1) := by decide +kernel
theorem dX12_change_33 : decode cX12_change 33 = .ok (.getfield 33, 3) := by decide +kernel
theorem dX12_change_36 : decode cX12_change 36 = .ok (.iconst 2, 1) := by decide +kernel
theorem dX12_change_37 : decode cX12_change 37 = .ok (.iaload, 1) := by decide +kernel
theorem dX12_change_38 : decode cX12_change 38 = .ok (.if_icmp .ge 75, 3) := by decide +kernel
theorem dX12_change_41 : decode cX12_change 41 = .ok (.aload_n 0, 1) := by decide +kernel
theorem dX12_change_42 : decode cX12_change 42 = .ok (.getfield 72, 3) := by decide +kernel
theorem dX12_change_45 : decode cX12_change 45 = .ok (.iload_n 1, 1) := by decide +kernel
theorem dX12_change_46 : decode cX12_change 46 = .ok (.iaload, 1) := by decide +kernel
theorem dX12_change_47 : decode cX12_change 47 = .ok (.iconst 1, 1) := by decide +kernel
theorem dX12_change_48 : decode cX12_change 48 = .ok (.if_icmp .ne 26, 3) := by decide +kernel
theorem dX12_change_51 : decode cX12_change 51 = .ok (.aload_n 0, 1) := by decide +kernel
theorem dX12_change_52 : decode cX12_change 52 = .ok (.getfield 70, 3) := by decide +kernel
theorem dX12_change_55 : decode cX12_change 55 = .ok (.iload_n 1, 1) := by decide +kernel
theorem dX12_change_56 : decode cX12_change 56 = .ok (.iconst 0, 1) := by decide +kernel
theorem dX12_change_57 : decode cX12_change 57 = .ok (.aload_n 0, 1) := by decide +kernel
theorem dX12_change_58 : decode cX12_change 58 = .ok (.getfield 70, 3) := by decide +kernel
theorem dX12_change_61 : decode cX12_change 61 = .ok (.iload_n 1, 1) := by decide +kernel
theorem dX12_change_62 : decode cX12_change 62 = .ok (.iaload, 1) := by decide +kernel
theorem dX12_change_63 : decode cX12_change 63 = .ok (.aload_n 0, 1) := by decide +kernel
theorem dX12_change_64 : decode cX12_change 64 = .ok (.getfield 96, 3) := by decide +kernel
theorem dX12_change_67 : decode cX12_change 67 = .ok (.iload_n 1, 1) := by decide +kernel
theorem dX12_change_68 : decode cX12_change 68 = .ok (.iaload, 1) := by decide +kernel
theorem dX12_change_69 : decode cX12_change 69 = .ok (.isub, 1) := by decide +kernel
theorem dX12_change_70 : decode cX12_change 70 = .ok (.invokestatic 371, 3) := by decide +kernel
theorem dX12_change_73 : decode cX12_change 73 = .ok (.iastore, 1) := by decide +kernel
theorem dX12_change_74 : decode cX12_change 74 = .ok (.aload_n 0, 1) := by decide +kernel
theorem dX12_change_75 : decode cX12_change 75 = .ok (.getfield 72, 3) := by decide +kernel
theorem dX12_change_78 : decode cX12_change 78 = .ok (.iload_n 1, 1) := by decide +kernel
theorem dX12_change_79 : decode cX12_change 79 = .ok (.iaload, 1) := by decide +kernel
theorem dX12_change_80 : decode cX12_change 80 = .ok (.ifCond .ne 27, 3) := by decide +kernel
theorem dX12_change_83 : decode cX12_change 83 = .ok (.aload_n 0, 1) := by decide +kernel
theorem dX12_change_84 : decode cX12_change 84 = .ok (.getfield 70, 3) := by decide +kernel
theorem dX12_change_87 : decode cX12_change 87 = .ok (.iload_n 1, 1) := by decide +kernel
theorem dX12_change_88 : decode cX12_change 88 = .ok (.bipush 99, 2) := by decide +kernel
theorem dX12_change_90 : decode cX12_change 90 = .ok (.aload_n 0, 1) := by decide +kernel
theorem dX12_change_91 : decode cX12_change 91 = .ok (.getfield 70, 3) := by decide +kernel
theorem dX12_change_94 : decode cX12_change 94 = .ok (.iload_n 1, 1) := by decide +kernel
theorem dX12_change_95 : decode cX12_change 95 = .ok (.iaload, 1) := by decide +kernel
theorem dX12_change_96 : decode cX12_change 96 = .ok (.aload_n 0, 1) := by decide +kernel
theorem dX12_change_97 : decode cX12_change 97 = .ok (.getfield 96, 3) := by decide +kernel
theorem dX12_change_100 : decode cX12_change 100 = .ok (.iload_n 1, 1) := by decide +kernel
theorem dX12_change_101 : decode cX12_change 101 = .ok (.iaload, 1) := by decide +kernel
theorem dX12_change_102 : decode cX12_change 102 = .ok (.iadd, 1) := by decide +kernel
theorem dX12_change_103 : decode cX12_change 103 = .ok (.invokestatic 197, 3) := by decide +kernel
theorem dX12_change_106 : decode cX12_change 106 = .ok (.iastore, 1) := by decide +kernel
theorem dX12_change_107 : decode cX12_change 107 = .ok (.iinc 1 1, 3) := by decide +kernel
theorem dX12_change_110 : decode cX12_change 110 = .ok (.goto (-79), 3) := by decide +kernel
theorem dX12_change_113 : decode cX12_change 113 = .ok (.iconst 0, 1) := by decide +kernel
theorem dX12_change_114 : decode cX12_change 114 = .ok (.istore_n 1, 1) := by decide +kernel
theorem dX12_change_115 : decode cX12_change 115 = .ok (.iload_n 1, 1) := by decide +kernel
theorem dX12_change_116 : decode cX12_change 116 = .ok (.aload_n 0, 1) := by decide +kernel
theorem dX12_change_117 : decode cX12_change 117 = .ok (.getfield 33, 3) := by decide +kernel
theorem dX12_change_120 : decode cX12_change 120 = .ok (.iconst 2, 1) := by decide +kernel
theorem dX12_change_121 : decode cX12_change 121 = .ok (.iaload, 1) := by decide +kernel
theorem dX12_change_122 : decode cX12_change 122 = .ok (.if_icmp .ge 34, 3) := by decide +kernel
theorem dX12_change_125 : decode cX12_change 125 = .ok (.aload_n 0, 1) := by decide +kernel
theorem dX12_change_126 : decode cX12_change 126 = .ok (.getfield 72, 3) := by decide +kernel
theorem dX12_change_129 : decode cX12_change 129 = .ok (.iload_n 1, 1) := by decide +kernel
theorem dX12_change_130 : decode cX12_change 130 = .ok (.iaload, 1) := by decide +kernel
theorem dX12_change_131 : decode cX12_change 131 = .ok (.iconst 1, 1) := by decide +kernel
theorem dX12_change_132 : decode cX12_change 132 = .ok (.if_icmp .ne 18, 3) := by decide +kernel
theorem dX12_change_135 : decode cX12_change 135 = .ok (.aload_n 0, 1) := by decide +kernel
theorem dX12_change_136 : decode cX12_change 136 = .ok (.getfield 70, 3) := by decide +kernel
theorem dX12_change_139 : decode cX12_change 139 = .ok (.iload_n 1, 1) := by decide +kernel
theorem dX12_change_140 : decode cX12_change 140 = .ok (.iaload, 1) := by decide +kernel
theorem dX12_change_141 : decode cX12_change 141 = .ok (.ifCond .ne 9, 3) := by decide +kernel
theorem dX12_change_144 : decode cX12_change 144 = .ok (.aload_n 0, 1) := by decide +kernel
theorem dX12_change_145 : decode cX12_change 145 = .ok (.iload_n 1, 1) := by decide +kernel
theorem dX12_change_146 : decode cX12_change 146 = .ok (.iconst 2, 1) := by decide +kernel
theorem dX12_change_147 : decode cX12_change 147 = .ok (.invokevirtual 377, 3) := by decide +kernel
theorem dX12_change_150 : decode cX12_change 150 = .ok (.iinc 1 1, 3) := by decide +kernel
theorem dX12_change_153 : decode cX12_change 153 = .ok (.goto (-38), 3) := by decide +kernel
theorem dX12_change_156 : decode cX12_change 156 = .ok (.return_, 1) := by decide +kernel
theorem dX12_isAngry_0 : decode cX12_isAngry 0 = .ok (.aload_n 0, 1) := by decide +kernel
theorem dX12_isAngry_1 : decode cX12_isAngry 1 = .ok (.getfield 72, 3) := by decide +kernel
theorem dX12_isAngry_4 : decode cX12_isAngry 4 = .ok (.iload_n 1, 1) := by decide +kernel
theorem dX12_isAngry_5 : decode cX12_isAngry 5 = .ok (.iaload, 1) := by decide +kernel
theorem dX12_isAngry_6 : decode cX12_isAngry 6 = .ok (.ifCond .ne 30, 3) := by decide +kernel
theorem dX12_isAngry_9 : decode cX12_isAngry 9 = .ok (.aload_n 0, 1) := by decide +kernel
theorem dX12_isAngry_10 : decode cX12_isAngry 10 = .ok (.getfield 70, 3) := by decide +kernel
theorem dX12_isAngry_13 : decode cX12_isAngry 13 = .ok (.iload_n 1, 1) := by decide +kernel
theorem dX12_isAngry_14 : decode cX12_isAngry 14 = .ok (.iaload, 1) := by decide +kernel
theorem dX12_isAngry_15 : decode cX12_isAngry 15 = .ok (.aload_n 0, 1) := by decide +kernel
theorem dX12_isAngry_16 : decode cX12_isAngry 16 = .ok (.getfield 33, 3) := by decide +kernel
theorem dX12_isAngry_19 : decode cX12_isAngry 19 = .ok (.iconst 3, 1) := by decide +kernel
theorem dX12_isAngry_20 : decode cX12_isAngry 20 = .ok (.iaload, 1) := by decide +kernel
theorem dX12_isAngry_21 : decode cX12_isAngry 21 = .ok (.if_icmp .lt 15, 3) := by decide +kernel
theorem dX12_isAngry_24 : decode cX12_isAngry 24 = .ok (.iload_n 2, 1) := by decide +kernel
theorem dX12_isAngry_25 : decode cX12_isAngry 25 = .ok (.iload_n 1, 1) := by decide +kernel
theorem dX12_isAngry_26 : decode cX12_isAngry 26 = .ok (.invokestatic 284, 3) := by decide +kernel
theorem dX12_isAngry_29 : decode cX12_isAngry 29 = .ok (.ifCond .ne 7, 3) := by decide +kernel
theorem dX12_isAngry_32 : decode cX12_isAngry 32 = .ok (.iconst 1, 1) := by decide +kernel
theorem dX12_isAngry_33 : decode cX12_isAngry 33 = .ok (.goto 4, 3) := by decide +kernel
theorem dX12_isAngry_36 : decode cX12_isAngry 36 = .ok (.iconst 0, 1) := by decide +kernel
theorem dX12_isAngry_37 : decode cX12_isAngry 37 = .ok (.ireturn, 1) := by decide +kernel
theorem dX12_fight_0 : decode cX12_fight 0 = .ok (.iconst 0, 1) := by decide +kernel
theorem dX12_fight_1 : decode cX12_fight 1 = .ok (.istore_n 1, 1) := by decide +kernel
theorem dX12_fight_2 : decode cX12_fight 2 = .ok (.iconst 0, 1) := by decide +kernel
theorem dX12_fight_3 : decode cX12_fight 3 = .ok (.istore_n 2, 1) := by decide +kernel
theorem dX12_fight_4 : decode cX12_fight 4 = .ok (.iload_n 2, 1) := by decide +kernel
theorem dX12_fight_5 : decode cX12_fight 5 = .ok (.aload_n 0, 1) := by decide +kernel
theorem dX12_fight_6 : decode cX12_fight 6 = .ok (.getfield 33, 3) := by decide +kernel
theorem dX12_fight_9 : decode cX12_fight 9 = .ok (.iconst 2, 1) := by decide +kernel
theorem dX12_fight_10 : decode cX12_fight 10 = .ok (.iaload, 1) := by decide +kernel
theorem dX12_fight_11 : decode cX12_fight 11 = .ok (.if_icmp .ge 129, 3) := by decide +kernel
theorem dX12_fight_14 : decode cX12_fight 14 = .ok (.iload_n 2, 1) := by decide +kernel
theorem dX12_fight_15 : decode cX12_fight 15 = .ok (.iconst 1, 1) := by decide +kernel
theorem dX12_fight_16 : decode cX12_fight 16 = .ok (.iadd, 1) := by decide +kernel
theorem dX12_fight_17 : decode cX12_fight 17 = .ok (.istore_n 3, 1) := by decide +kernel
theorem dX12_fight_18 : decode cX12_fight 18 = .ok (.iload_n 3, 1) := by decide +kernel
theorem dX12_fight_19 : decode cX12_fight 19 = .ok (.aload_n 0, 1) := by decide +kernel
theorem dX12_fight_20 : decode cX12_fight 20 = .ok (.getfield 33, 3) := by decide +kernel
theorem dX12_fight_23 : decode cX12_fight 23 = .ok (.iconst 2, 1) := by decide +kernel
theorem dX12_fight_24 : decode cX12_fight 24 = .ok (.iaload, 1) := by decide +kernel
theorem dX12_fight_25 : decode cX12_fight 25 = .ok (.if_icmp .ge 109, 3) := by decide +kernel
theorem dX12_fight_28 : decode cX12_fight 28 = .ok (.aload_n 0, 1) := by decide +kernel
theorem dX12_fight_29 : decode cX12_fight 29 = .ok (.iload_n 2, 1) := by decide +kernel
theorem dX12_fight_30 : decode cX12_fight 30 = .ok (.iload_n 1, 1) := by decide +kernel
theorem dX12_fight_31 : decode cX12_fight 31 = .ok (.invokevirtual 381, 3) := by decide +kernel
theorem dX12_fight_34 : decode cX12_fight 34 = .ok (.ifCond .eq 94, 3) := by decide +kernel
theorem dX12_fight_37 : decode cX12_fight 37 = .ok (.aload_n 0, 1) := by decide +kernel
theorem dX12_fight_38 : decode cX12_fight 38 = .ok (.iload_n 3, 1) := by decide +kernel
theorem dX12_fight_39 : decode cX12_fight 39 = .ok (.iload_n 1, 1) := by decide +kernel
theorem dX12_fight_40 : decode cX12_fight 40 = .ok (.invokevirtual 381, 3) := by decide +kernel
theorem dX12_fight_43 : decode cX12_fight 43 = .ok (.ifCond .eq 85, 3) := by decide +kernel
theorem dX12_fight_46 : decode cX12_fight 46 = .ok (.aload_n 0, 1) := by decide +kernel
theorem dX12_fight_47 : decode cX12_fight 47 = .ok (.iload_n 2, 1) := by decide +kernel
theorem dX12_fight_48 : decode cX12_fight 48 = .ok (.iload_n 3, 1) := by decide +kernel
theorem dX12_fight_49 : decode cX12_fight 49 = .ok (.invokevirtual 351, 3) := by decide +kernel
theorem dX12_fight_52 : decode cX12_fight 52 = .ok (.ifCond .ne 6, 3) := by decide +kernel
theorem dX12_fight_55 : decode cX12_fight 55 = .ok (.goto 73, 3) := by decide +kernel
theorem dX12_fight_58 : decode cX12_fight 58 = .ok (.aload_n 0, 1) := by decide +kernel
theorem dX12_fight_59 : decode cX12_fight 59 = .ok (.getfield 70, 3) := by decide +kernel
theorem dX12_fight_62 : decode cX12_fight 62 = .ok (.iload_n 2, 1) := by decide +kernel
theorem dX12_fight_63 : decode cX12_fight 63 = .ok (.dup2, 1) := by decide +kernel
theorem dX12_fight_64 : decode cX12_fight 64 = .ok (.iaload, 1) := by decide +kernel
theorem dX12_fight_65 : decode cX12_fight 65 = .ok (.iconst 2, 1) := by decide +kernel
theorem dX12_fight_66 : decode cX12_fight 66 = .ok (.idiv, 1) := by decide +kernel
theorem dX12_fight_67 : decode cX12_fight 67 = .ok (.iastore, 1) := by decide +kernel
theorem dX12_fight_68 : decode cX12_fight 68 = .ok (.aload_n 0, 1) := by decide +kernel
theorem dX12_fight_69 : decode cX12_fight 69 = .ok (.getfield 70, 3) := by decide +kernel
theorem dX12_fight_72 : decode cX12_fight 72 = .ok (.iload_n 3, 1) := by decide +kernel
theorem dX12_fight_73 : decode cX12_fight 73 = .ok (.dup2, 1) := by decide +kernel
theorem dX12_fight_74 : decode cX12_fight 74 = .ok (.iaload, 1) := by decide +kernel
theorem dX12_fight_75 : decode cX12_fight 75 = .ok (.iconst 2, 1) := by decide +kernel
theorem dX12_fight_76 : decode cX12_fight 76 = .ok (.idiv, 1) := by decide +kernel
theorem dX12_fight_77 : decode cX12_fight 77 = .ok (.iastore, 1) := by decide +kernel
theorem dX12_fight_78 : decode cX12_fight 78 = .ok (.iload_n 1, 1) := by decide +kernel
theorem dX12_fight_79 : decode cX12_fight 79 = .ok (.iconst 1, 1) := by decide +kernel
theorem dX12_fight_80 : decode cX12_fight 80 = .ok (.iload_n 2, 1) := by decide +kernel
theorem dX12_fight_81 : decode cX12_fight 81 = .ok (.ishl, 1) := by decide +kernel
theorem dX12_fight_82 : decode cX12_fight 82 = .ok (.iconst 1, 1) := by decide +kernel
theorem dX12_fight_83 : decode cX12_fight 83 = .ok (.iload_n 3, 1) := by decide +kernel
theorem dX12_fight_84 : decode cX12_fight 84 = .ok (.ishl, 1) := by decide +kernel
theorem dX12_fight_85 : decode cX12_fight 85 = .ok (.ior, 1) := by decide +kernel
theorem dX12_fight_86 : decode cX12_fight 86 = .ok (.ior, 1) := by decide +kernel
theorem dX12_fight_87 : decode cX12_fight 87 = .ok (.istore_n 1, 1) := by decide +kernel
theorem dX12_fight_88 : decode cX12_fight 88 = .ok (.aload_n 0, 1) := by decide +kernel
theorem dX12_fight_89 : decode cX12_fight 89 = .ok (.dup, 1) := by decide +kernel
theorem dX12_fight_90 : decode cX12_fight 90 = .ok (.getfield 327, 3) := by decide +kernel
theorem dX12_fight_93 : decode cX12_fight 93 = .ok (.iconst 1, 1) := by decide +kernel
theorem dX12_fight_94 : decode cX12_fight 94 = .ok (.iadd, 1) := by decide +kernel
theorem dX12_fight_95 : decode cX12_fight 95 = .ok (.putfield 327, 3) := by decide +kernel
theorem dX12_fight_98 : decode cX12_fight 98 = .ok (.aload_n 0, 1) := by decide +kernel
theorem dX12_fight_99 : decode cX12_fight 99 = .ok (.getfield 99, 3) := by decide +kernel
theorem dX12_fight_102 : decode cX12_fight 102 = .ok (.aload_n 0, 1) := by decide +kernel
theorem dX12_fight_103 : decode cX12_fight 103 = .ok (.getfield 46, 3) := by decide +kernel
theorem dX12_fight_106 : decode cX12_fight 106 = .ok (.iload_n 2, 1) := by decide +kernel
theorem dX12_fight_107 : decode cX12_fight 107 = .ok (.iaload, 1) := by decide +kernel
theorem dX12_fight_108 : decode cX12_fight 108 = .ok (.dup2, 1) := by decide +kernel
theorem dX12_fight_109 : decode cX12_fight 109 = .ok (.iaload, 1) := by decide +kernel
theorem dX12_fight_110 : decode cX12_fight 110 = .ok (.iconst 1, 1) := by decide +kernel
theorem dX12_fight_111 : decode cX12_fight 111 = .ok (.iadd, 1) := by decide +kernel
theorem dX12_fight_112 : decode cX12_fight 112 = .ok (.iastore, 1) := by decide +kernel
theorem dX12_fight_113 : decode cX12_fight 113 = .ok (.aload_n 0, 1) := by decide +kernel
theorem dX12_fight_114 : decode cX12_fight 114 = .ok (.getfield 99, 3) := by decide +kernel
theorem dX12_fight_117 : decode cX12_fight 117 = .ok (.aload_n 0, 1) := by decide +kernel
theorem dX12_fight_118 : decode cX12_fight 118 = .ok (.getfield 46, 3) := by decide +kernel
theorem dX12_fight_121 : decode cX12_fight 121 = .ok (.iload_n 3, 1) := by decide +kernel
theorem dX12_fight_122 : decode cX12_fight 122 = .ok (.iaload, 1) := by decide +kernel
theorem dX12_fight_123 : decode cX12_fight 123 = .ok (.dup2, 1) := by decide +kernel
theorem dX12_fight_124 : decode cX12_fight 124 = .ok (.iaload, 1) := by decide +kernel
theorem dX12_fight_125 : decode cX12_fight 125 = .ok (.iconst 1, 1) := by decide +kernel
theorem dX12_fight_126 : decode cX12_fight 126 = .ok (.iadd, 1) := by decide +kernel
theorem dX12_fight_127 : decode cX12_fight 127 = .ok (.iastore, 1) := by decide +kernel
theorem dX12_fight_128 : decode cX12_fight 128 = .ok (.iinc 3 1, 3) := by decide +kernel
theorem dX12_fight_131 : decode cX12_fight 131 = .ok (.goto (-113), 3) := by decide +kernel
theorem dX12_fight_134 : decode cX12_fight 134 = .ok (.iinc 2 1, 3) := by decide +kernel
theorem dX12_fight_137 : decode cX12_fight 137 = .ok (.goto (-133), 3) := by decide +kernel
theorem dX12_fight_140 : decode cX12_fight 140 = .ok (.return_, 1) := by decide +kernel
theorem dX12_aDay_0 : decode cX12_aDay 0 = .ok (.aload_n 0, 1) := by decide +kernel
theorem dX12_aDay_1 : decode cX12_aDay 1 = .ok (.invokevirtual 384, 3) := by decide +kernel
theorem dX12_aDay_4 : decode cX12_aDay 4 = .ok (.iconst 0, 1) := by decide +kernel
theorem dX12_aDay_5 : decode cX12_aDay 5 = .ok (.istore_n 1, 1) := by decide +kernel
theorem dX12_aDay_6 : decode cX12_aDay 6 = .ok (.iload_n 1, 1) := by decide +kernel
theorem dX12_aDay_7 : decode cX12_aDay 7 = .ok (.aload_n 0, 1) := by decide +kernel
theorem dX12_aDay_8 : decode cX12_aDay 8 = .ok (.getfield 33, 3) := by decide +kernel
theorem dX12_aDay_11 : decode cX12_aDay 11 = .ok (.iconst 1, 1) := by decide +kernel
theorem dX12_aDay_12 : decode cX12_aDay 12 = .ok (.iaload, 1) := by decide +kernel
theorem dX12_aDay_13 : decode cX12_aDay 13 = .ok (.if_icmp .ge 53, 3) := by decide +kernel
theorem dX12_aDay_16 : decode cX12_aDay 16 = .ok (.aload_n 0, 1) := by decide +kernel
theorem dX12_aDay_17 : decode cX12_aDay 17 = .ok (.getfield 43, 3) := by decide +kernel
theorem dX12_aDay_20 : decode cX12_aDay 20 = .ok (.iload_n 1, 1) := by decide +kernel
theorem dX12_aDay_21 : decode cX12_aDay 21 = .ok (.iaload, 1) := by decide +kernel
theorem dX12_aDay_22 : decode cX12_aDay 22 = .ok (.ifCond .le 38, 3) := by decide +kernel
theorem dX12_aDay_25 : decode cX12_aDay 25 = .ok (.aload_n 0, 1) := by decide +kernel
theorem dX12_aDay_26 : decode cX12_aDay 26 = .ok (.getfield 325, 3) := by decide +kernel
theorem dX12_aDay_29 : decode cX12_aDay 29 = .ok (.iconst 1, 1) := by decide +kernel
theorem dX12_aDay_30 : decode cX12_aDay 30 = .ok (.iadd, 1) := by decide +kernel
theorem dX12_aDay_31 : decode cX12_aDay 31 = .ok (.aload_n 0, 1) := by decide +kernel
theorem dX12_aDay_32 : decode cX12_aDay 32 = .ok (.getfield 43, 3) := by decide +kernel
theorem dX12_aDay_35 : decode cX12_aDay 35 = .ok (.iload_n 1, 1) := by decide +kernel
theorem dX12_aDay_36 : decode cX12_aDay 36 = .ok (.iaload, 1) := by decide +kernel
theorem dX12_aDay_37 : decode cX12_aDay 37 = .ok (.irem, 1) := by decide +kernel
theorem dX12_aDay_38 : decode cX12_aDay 38 = .ok (.ifCond .ne 22, 3) := by decide +kernel
theorem dX12_aDay_41 : decode cX12_aDay 41 = .ok (.aload_n 0, 1) := by decide +kernel
theorem dX12_aDay_42 : decode cX12_aDay 42 = .ok (.getfield 78, 3) := by decide +kernel
theorem dX12_aDay_45 : decode cX12_aDay 45 = .ok (.iload_n 1, 1) := by decide +kernel
theorem dX12_aDay_46 : decode cX12_aDay 46 = .ok (.iaload, 1) := by decide +kernel
theorem dX12_aDay_47 : decode cX12_aDay 47 = .ok (.ifCond .le 13, 3) := by decide +kernel
theorem dX12_aDay_50 : decode cX12_aDay 50 = .ok (.aload_n 0, 1) := by decide +kernel
theorem dX12_aDay_51 : decode cX12_aDay 51 = .ok (.aload_n 0, 1) := by decide +kernel
theorem dX12_aDay_52 : decode cX12_aDay 52 = .ok (.iload_n 1, 1) := by decide +kernel
theorem dX12_aDay_53 : decode cX12_aDay 53 = .ok (.invokevirtual 387, 3) := by decide +kernel
theorem dX12_aDay_56 : decode cX12_aDay 56 = .ok (.iconst 0, 1) := by decide +kernel
theorem dX12_aDay_57 : decode cX12_aDay 57 = .ok (.invokevirtual 377, 3) := by decide +kernel
theorem dX12_aDay_60 : decode cX12_aDay 60 = .ok (.iinc 1 1, 3) := by decide +kernel
theorem dX12_aDay_63 : decode cX12_aDay 63 = .ok (.goto (-57), 3) := by decide +kernel
theorem dX12_aDay_66 : decode cX12_aDay 66 = .ok (.aload_n 0, 1) := by decide +kernel
theorem dX12_aDay_67 : decode cX12_aDay 67 = .ok (.invokevirtual 390, 3) := by decide +kernel
theorem dX12_aDay_70 : decode cX12_aDay 70 = .ok (.aload_n 0, 1) := by decide +kernel
theorem dX12_aDay_71 : decode cX12_aDay 71 = .ok (.dup, 1) := by decide +kernel
theorem dX12_aDay_72 : decode cX12_aDay 72 = .ok (.getfield 325, 3) := by decide +kernel
theorem dX12_aDay_75 : decode cX12_aDay 75 = .ok (.iconst 1, 1) := by decide +kernel
theorem dX12_aDay_76 : decode cX12_aDay 76 = .ok (.iadd, 1) := by decide +kernel
theorem dX12_aDay_77 : decode cX12_aDay 77 = .ok (.putfield 325, 3) := by decide +kernel
theorem dX12_aDay_80 : decode cX12_aDay 80 = .ok (.return_, 1) := by decide +kernel
theorem dX12_goOn_0 : decode cX12_goOn 0 = .ok (.iconst 0, 1) := by decide +kernel
theorem dX12_goOn_1 : decode cX12_goOn 1 = .ok (.istore_n 2, 1) := by decide +kernel
theorem dX12_goOn_2 : decode cX12_goOn 2 = .ok (.iload_n 2, 1) := by decide +kernel
theorem dX12_goOn_3 : decode cX12_goOn 3 = .ok (.iload_n 1, 1) := by decide +kernel
theorem dX12_goOn_4 : decode cX12_goOn 4 = .ok (.if_icmp .ge 13, 3) := by decide +kernel
theorem dX12_goOn_7 : decode cX12_goOn 7 = .ok (.aload_n 0, 1) := by decide +kernel
theorem dX12_goOn_8 : decode cX12_goOn 8 = .ok (.invokevirtual 393, 3) := by decide +kernel
theorem dX12_goOn_11 : decode cX12_goOn 11 = .ok (.iinc 2 1, 3) := by decide +kernel
theorem dX12_goOn_14 : decode cX12_goOn 14 = .ok (.goto (-12), 3) := by decide +kernel
theorem dX12_goOn_17 : decode cX12_goOn 17 = .ok (.return_, 1) := by decide +kernel
theorem dX12_feudMany_0 : decode cX12_feudMany 0 = .ok (.iconst 0, 1) := by decide +kernel
theorem dX12_feudMany_1 : decode cX12_feudMany 1 = .ok (.istore_n 1, 1) := by decide +kernel
theorem dX12_feudMany_2 : decode cX12_feudMany 2 = .ok (.iconst 0, 1) := by decide +kernel
theorem dX12_feudMany_3 : decode cX12_feudMany 3 = .ok (.istore_n 2, 1) := by decide +kernel
theorem dX12_feudMany_4 : decode cX12_feudMany 4 = .ok (.iload_n 2, 1) := by decide +kernel
theorem dX12_feudMany_5 : decode cX12_feudMany 5 = .ok (.bipush 6, 2) := by decide +kernel
theorem dX12_feudMany_7 : decode cX12_feudMany 7 = .ok (.if_icmp .ge 21, 3) := by decide +kernel
theorem dX12_feudMany_10 : decode cX12_feudMany 10 = .ok (.iload_n 1, 1) := by decide +kernel
theorem dX12_feudMany_11 : decode cX12_feudMany 11 = .ok (.aload_n 0, 1) := by decide +kernel
theorem dX12_feudMany_12 : decode cX12_feudMany 12 = .ok (.getfield 84, 3) := by decide +kernel
theorem dX12_feudMany_15 : decode cX12_feudMany 15 = .ok (.iload_n 2, 1) := by decide +kernel
theorem dX12_feudMany_16 : decode cX12_feudMany 16 = .ok (.iaload, 1) := by decide +kernel
theorem dX12_feudMany_17 : decode cX12_feudMany 17 = .ok (.invokestatic 364, 3) := by decide +kernel
theorem dX12_feudMany_20 : decode cX12_feudMany 20 = .ok (.iadd, 1) := by decide +kernel
theorem dX12_feudMany_21 : decode cX12_feudMany 21 = .ok (.istore_n 1, 1) := by decide +kernel
theorem dX12_feudMany_22 : decode cX12_feudMany 22 = .ok (.iinc 2 1, 3) := by decide +kernel
theorem dX12_feudMany_25 : decode cX12_feudMany 25 = .ok (.goto (-21), 3) := by decide +kernel
theorem dX12_feudMany_28 : decode cX12_feudMany 28 = .ok (.iload_n 1, 1) := by decide +kernel
theorem dX12_feudMany_29 : decode cX12_feudMany 29 = .ok (.iconst 2, 1) := by decide +kernel
theorem dX12_feudMany_30 : decode cX12_feudMany 30 = .ok (.idiv, 1) := by decide +kernel
theorem dX12_feudMany_31 : decode cX12_feudMany 31 = .ok (.ireturn, 1) := by decide +kernel
theorem dX12_count_0 : decode cX12_count 0 = .ok (.aload_n 0, 1) := by decide +kernel
theorem dX12_count_1 : decode cX12_count 1 = .ok (.iconst 0, 1) := by decide +kernel
theorem dX12_count_2 : decode cX12_count 2 = .ok (.putfield 158, 3) := by decide +kernel
theorem dX12_count_5 : decode cX12_count 5 = .ok (.iload_n 1, 1) := by decide +kernel
theorem dX12_count_6 : decode cX12_count 6 = .ok (.tableswitch 129 0 14 #[74, 79, 79, 79, 86, 91, 91, 91, 99, 104, 109, 114, 119, 119, 119], 74) := by decide +kernel
theorem dX12_count_80 : decode cX12_count 80 = .ok (.aload_n 0, 1) := by decide +kernel
theorem dX12_count_81 : decode cX12_count 81 = .ok (.invokevirtual 396, 3) := by decide +kernel
theorem dX12_count_84 : decode cX12_count 84 = .ok (.ireturn, 1) := by decide +kernel
theorem dX12_count_85 : decode cX12_count 85 = .ok (.aload_n 0, 1) := by decide +kernel
theorem dX12_count_86 : decode cX12_count 86 = .ok (.getfield 33, 3) := by decide +kernel
theorem dX12_count_89 : decode cX12_count 89 = .ok (.iload_n 1, 1) := by decide +kernel
theorem dX12_count_90 : decode cX12_count 90 = .ok (.iaload, 1) := by decide +kernel
theorem dX12_count_91 : decode cX12_count 91 = .ok (.ireturn, 1) := by decide +kernel
theorem dX12_count_92 : decode cX12_count 92 = .ok (.aload_n 0, 1) := by decide +kernel
theorem dX12_count_93 : decode cX12_count 93 = .ok (.getfield 325, 3) := by decide +kernel
theorem dX12_count_96 : decode cX12_count 96 = .ok (.ireturn, 1) := by decide +kernel
theorem dX12_count_97 : decode cX12_count 97 = .ok (.aload_n 0, 1) := by decide +kernel
theorem dX12_count_98 : decode cX12_count 98 = .ok (.iload_n 1, 1) := by decide +kernel
theorem dX12_count_99 : decode cX12_count 99 = .ok (.iconst 5, 1) := by decide +kernel
theorem dX12_count_100 : decode cX12_count 100 = .ok (.isub, 1) := by decide +kernel
theorem dX12_count_101 : decode cX12_count 101 = .ok (.invokevirtual 348, 3) := by decide +kernel
theorem dX12_count_104 : decode cX12_count 104 = .ok (.ireturn, 1) := by decide +kernel
theorem dX12_count_105 : decode cX12_count 105 = .ok (.aload_n 0, 1) := by decide +kernel
theorem dX12_count_106 : decode cX12_count 106 = .ok (.getfield 327, 3) := by decide +kernel
theorem dX12_count_109 : decode cX12_count 109 = .ok (.ireturn, 1) := by decide +kernel
theorem dX12_count_110 : decode cX12_count 110 = .ok (.aload_n 0, 1) := by decide +kernel
theorem dX12_count_111 : decode cX12_count 111 = .ok (.getfield 330, 3) := by decide +kernel
theorem dX12_count_114 : decode cX12_count 114 = .ok (.ireturn, 1) := by decide +kernel
theorem dX12_count_115 : decode cX12_count 115 = .ok (.aload_n 0, 1) := by decide +kernel
theorem dX12_count_116 : decode cX12_count 116 = .ok (.getfield 333, 3) := by decide +kernel
theorem dX12_count_119 : decode cX12_count 119 = .ok (.ireturn, 1) := by decide +kernel
theorem dX12_count_120 : decode cX12_count 120 = .ok (.aload_n 0, 1) := by decide +kernel
theorem dX12_count_121 : decode cX12_count 121 = .ok (.getfield 167, 3) := by decide +kernel
theorem dX12_count_124 : decode cX12_count 124 = .ok (.ireturn, 1) := by decide +kernel
theorem dX12_count_125 : decode cX12_count 125 = .ok (.aload_n 0, 1) := by decide +kernel
theorem dX12_count_126 : decode cX12_count 126 = .ok (.getfield 60, 3) := by decide +kernel
theorem dX12_count_129 : decode cX12_count 129 = .ok (.iload_n 1, 1) := by decide +kernel
theorem dX12_count_130 : decode cX12_count 130 = .ok (.bipush 12, 2) := by decide +kernel
theorem dX12_count_132 : decode cX12_count 132 = .ok (.isub, 1) := by decide +kernel
theorem dX12_count_133 : decode cX12_count 133 = .ok (.iaload, 1) := by decide +kernel
theorem dX12_count_134 : decode cX12_count 134 = .ok (.ireturn, 1) := by decide +kernel
theorem dX12_count_135 : decode cX12_count 135 = .ok (.aload_n 0, 1) := by decide +kernel
theorem dX12_count_136 : decode cX12_count 136 = .ok (.iconst 1, 1) := by decide +kernel
theorem dX12_count_137 : decode cX12_count 137 = .ok (.invokevirtual 312, 3) := by decide +kernel
theorem dX12_count_140 : decode cX12_count 140 = .ok (.ireturn, 1) := by decide +kernel
theorem dX12_blade_0 : decode cX12_blade 0 = .ok (.aload_n 0, 1) := by decide +kernel
theorem dX12_blade_1 : decode cX12_blade 1 = .ok (.iconst 0, 1) := by decide +kernel
theorem dX12_blade_2 : decode cX12_blade 2 = .ok (.putfield 158, 3) := by decide +kernel
theorem dX12_blade_5 : decode cX12_blade 5 = .ok (.aload_n 0, 1) := by decide +kernel
theorem dX12_blade_6 : decode cX12_blade 6 = .ok (.iload_n 1, 1) := by decide +kernel
theorem dX12_blade_7 : decode cX12_blade 7 = .ok (.invokevirtual 399, 3) := by decide +kernel
theorem dX12_blade_10 : decode cX12_blade 10 = .ok (.ifCond .ne 9, 3) := by decide +kernel
theorem dX12_blade_13 : decode cX12_blade 13 = .ok (.aload_n 0, 1) := by decide +kernel
theorem dX12_blade_14 : decode cX12_blade 14 = .ok (.iconst 1, 1) := by decide +kernel
theorem dX12_blade_15 : decode cX12_blade 15 = .ok (.invokevirtual 312, 3) := by decide +kernel
theorem dX12_blade_18 : decode cX12_blade 18 = .ok (.ireturn, 1) := by decide +kernel
theorem dX12_blade_19 : decode cX12_blade 19 = .ok (.iload_n 2, 1) := by decide +kernel
theorem dX12_blade_20 : decode cX12_blade 20 = .ok (.tableswitch 90 0 6 #[44, 51, 58, 65, 72, 78, 84], 44) := by decide +kernel
theorem dX12_blade_64 : decode cX12_blade 64 = .ok (.aload_n 0, 1) := by decide +kernel
theorem dX12_blade_65 : decode cX12_blade 65 = .ok (.getfield 46, 3) := by decide +kernel
theorem dX12_blade_68 : decode cX12_blade 68 = .ok (.iload_n 1, 1) := by decide +kernel
theorem dX12_blade_69 : decode cX12_blade 69 = .ok (.iaload, 1) := by decide +kernel
theorem dX12_blade_70 : decode cX12_blade 70 = .ok (.ireturn, 1) := by decide +kernel
theorem dX12_blade_71 : decode cX12_blade 71 = .ok (.aload_n 0, 1) := by decide +kernel
theorem dX12_blade_72 : decode cX12_blade 72 = .ok (.getfield 49, 3) := by decide +kernel
theorem dX12_blade_75 : decode cX12_blade 75 = .ok (.iload_n 1, 1) := by decide +kernel
theorem dX12_blade_76 : decode cX12_blade 76 = .ok (.iaload, 1) := by decide +kernel
theorem dX12_blade_77 : decode cX12_blade 77 = .ok (.ireturn, 1) := by decide +kernel
theorem dX12_blade_78 : decode cX12_blade 78 = .ok (.aload_n 0, 1) := by decide +kernel
theorem dX12_blade_79 : decode cX12_blade 79 = .ok (.getfield 70, 3) := by decide +kernel
theorem dX12_blade_82 : decode cX12_blade 82 = .ok (.iload_n 1, 1) := by decide +kernel
theorem dX12_blade_83 : decode cX12_blade 83 = .ok (.iaload, 1) := by decide +kernel
theorem dX12_blade_84 : decode cX12_blade 84 = .ok (.ireturn, 1) := by decide +kernel
theorem dX12_blade_85 : decode cX12_blade 85 = .ok (.aload_n 0, 1) := by decide +kernel
theorem dX12_blade_86 : decode cX12_blade 86 = .ok (.getfield 72, 3) := by decide +kernel
theorem dX12_blade_89 : decode cX12_blade 89 = .ok (.iload_n 1, 1) := by decide +kernel
theorem dX12_blade_90 : decode cX12_blade 90 = .ok (.iaload, 1) := by decide +kernel
theorem dX12_blade_91 : decode cX12_blade 91 = .ok (.ireturn, 1) := by decide +kernel
theorem dX12_blade_92 : decode cX12_blade 92 = .ok (.aload_n 0, 1) := by decide +kernel
theorem dX12_blade_93 : decode cX12_blade 93 = .ok (.iload_n 1, 1) := by decide +kernel
theorem dX12_blade_94 : decode cX12_blade 94 = .ok (.invokevirtual 339, 3) := by decide +kernel
theorem dX12_blade_97 : decode cX12_blade 97 = .ok (.ireturn, 1) := by decide +kernel
theorem dX12_blade_98 : decode cX12_blade 98 = .ok (.aload_n 0, 1) := by decide +kernel
theorem dX12_blade_99 : decode cX12_blade 99 = .ok (.iload_n 1, 1) := by decide +kernel
theorem dX12_blade_100 : decode cX12_blade 100 = .ok (.invokevirtual 358, 3) := by decide +kernel
theorem dX12_blade_103 : decode cX12_blade 103 = .ok (.ireturn, 1) := by decide +kernel
theorem dX12_blade_104 : decode cX12_blade 104 = .ok (.aload_n 0, 1) := by decide +kernel
theorem dX12_blade_105 : decode cX12_blade 105 = .ok (.iload_n 1, 1) := by decide +kernel
theorem dX12_blade_106 : decode cX12_blade 106 = .ok (.invokevirtual 374, 3) := by decide +kernel
theorem dX12_blade_109 : decode cX12_blade 109 = .ok (.ireturn, 1) := by decide +kernel
theorem dX12_blade_110 : decode cX12_blade 110 = .ok (.aload_n 0, 1) := by decide +kernel
theorem dX12_blade_111 : decode cX12_blade 111 = .ok (.iconst 1, 1) := by decide +kernel
theorem dX12_blade_112 : decode cX12_blade 112 = .ok (.invokevirtual 312, 3) := by decide +kernel
theorem dX12_blade_115 : decode cX12_blade 115 = .ok (.ireturn, 1) := by decide +kernel
theorem dX12_throat_0 : decode cX12_throat 0 = .ok (.aload_n 0, 1) := by decide +kernel
theorem dX12_throat_1 : decode cX12_throat 1 = .ok (.iconst 0, 1) := by decide +kernel
theorem dX12_throat_2 : decode cX12_throat 2 = .ok (.putfield 158, 3) := by decide +kernel
theorem dX12_throat_5 : decode cX12_throat 5 = .ok (.aload_n 0, 1) := by decide +kernel
theorem dX12_throat_6 : decode cX12_throat 6 = .ok (.iload_n 1, 1) := by decide +kernel
theorem dX12_throat_7 : decode cX12_throat 7 = .ok (.invokevirtual 402, 3) := by decide +kernel
theorem dX12_throat_10 : decode cX12_throat 10 = .ok (.ifCond .ne 9, 3) := by decide +kernel
theorem dX12_throat_13 : decode cX12_throat 13 = .ok (.aload_n 0, 1) := by decide +kernel
theorem dX12_throat_14 : decode cX12_throat 14 = .ok (.iconst 1, 1) := by decide +kernel
theorem dX12_throat_15 : decode cX12_throat 15 = .ok (.invokevirtual 312, 3) := by decide +kernel
theorem dX12_throat_18 : decode cX12_throat 18 = .ok (.ireturn, 1) := by decide +kernel
theorem dX12_throat_19 : decode cX12_throat 19 = .ok (.iload_n 2, 1) := by decide +kernel
theorem dX12_throat_20 : decode cX12_throat 20 = .ok (.tableswitch 69 0 4 #[36, 43, 50, 56, 63], 36) := by decide +kernel
theorem dX12_throat_56 : decode cX12_throat 56 = .ok (.aload_n 0, 1) := by decide +kernel
theorem dX12_throat_57 : decode cX12_throat 57 = .ok (.getfield 75, 3) := by decide +kernel
theorem dX12_throat_60 : decode cX12_throat 60 = .ok (.iload_n 1, 1) := by decide +kernel
theorem dX12_throat_61 : decode cX12_throat 61 = .ok (.iaload, 1) := by decide +kernel
theorem dX12_throat_62 : decode cX12_throat 62 = .ok (.ireturn, 1) := by decide +kernel
theorem dX12_throat_63 : decode cX12_throat 63 = .ok (.aload_n 0, 1) := by decide +kernel
theorem dX12_throat_64 : decode cX12_throat 64 = .ok (.getfield 43, 3) := by decide +kernel
theorem dX12_throat_67 : decode cX12_throat 67 = .ok (.iload_n 1, 1) := by decide +kernel
theorem dX12_throat_68 : decode cX12_throat 68 = .ok (.iaload, 1) := by decide +kernel
theorem dX12_throat_69 : decode cX12_throat 69 = .ok (.ireturn, 1) := by decide +kernel
theorem dX12_throat_70 : decode cX12_throat 70 = .ok (.aload_n 0, 1) := by decide +kernel
theorem dX12_throat_71 : decode cX12_throat 71 = .ok (.iload_n 1, 1) := by decide +kernel
theorem dX12_throat_72 : decode cX12_throat 72 = .ok (.invokevirtual 405, 3) := by decide +kernel
theorem dX12_throat_75 : decode cX12_throat 75 = .ok (.ireturn, 1) := by decide +kernel
theorem dX12_throat_76 : decode cX12_throat 76 = .ok (.aload_n 0, 1) := by decide +kernel
theorem dX12_throat_77 : decode cX12_throat 77 = .ok (.getfield 78, 3) := by decide +kernel
theorem dX12_throat_80 : decode cX12_throat 80 = .ok (.iload_n 1, 1) := by decide +kernel
theorem dX12_throat_81 : decode cX12_throat 81 = .ok (.iaload, 1) := by decide +kernel
theorem dX12_throat_82 : decode cX12_throat 82 = .ok (.ireturn, 1) := by decide +kernel
theorem dX12_throat_83 : decode cX12_throat 83 = .ok (.aload_n 0, 1) := by decide +kernel
theorem dX12_throat_84 : decode cX12_throat 84 = .ok (.iload_n 1, 1) := by decide +kernel
theorem dX12_throat_85 : decode cX12_throat 85 = .ok (.invokevirtual 387, 3) := by decide +kernel
theorem dX12_throat_88 : decode cX12_throat 88 = .ok (.ireturn, 1) := by decide +kernel
theorem dX12_throat_89 : decode cX12_throat 89 = .ok (.aload_n 0, 1) := by decide +kernel
theorem dX12_throat_90 : decode cX12_throat 90 = .ok (.iconst 1, 1) := by decide +kernel
theorem dX12_throat_91 : decode cX12_throat 91 = .ok (.invokevirtual 312, 3) := by decide +kernel
theorem dX12_throat_94 : decode cX12_throat 94 = .ok (.ireturn, 1) := by decide +kernel
theorem dX12_feud_0 : decode cX12_feud 0 = .ok (.aload_n 0, 1) := by decide +kernel
theorem dX12_feud_1 : decode cX12_feud 1 = .ok (.iconst 0, 1) := by decide +kernel
theorem dX12_feud_2 : decode cX12_feud 2 = .ok (.putfield 158, 3) := by decide +kernel
theorem dX12_feud_5 : decode cX12_feud 5 = .ok (.iload_n 1, 1) := by decide +kernel
theorem dX12_feud_6 : decode cX12_feud 6 = .ok (.invokestatic 408, 3) := by decide +kernel
theorem dX12_feud_9 : decode cX12_feud 9 = .ok (.ifCond .eq 23, 3) := by decide +kernel
theorem dX12_feud_12 : decode cX12_feud 12 = .ok (.iload_n 2, 1) := by decide +kernel
theorem dX12_feud_13 : decode cX12_feud 13 = .ok (.invokestatic 408, 3) := by decide +kernel
theorem dX12_feud_16 : decode cX12_feud 16 = .ok (.ifCond .eq 16, 3) := by decide +kernel
theorem dX12_feud_19 : decode cX12_feud 19 = .ok (.aload_n 0, 1) := by decide +kernel
theorem dX12_feud_20 : decode cX12_feud 20 = .ok (.getfield 84, 3) := by decide +kernel
theorem dX12_feud_23 : decode cX12_feud 23 = .ok (.iload_n 1, 1) := by decide +kernel
theorem dX12_feud_24 : decode cX12_feud 24 = .ok (.iaload, 1) := by decide +kernel
theorem dX12_feud_25 : decode cX12_feud 25 = .ok (.iload_n 2, 1) := by decide +kernel
theorem dX12_feud_26 : decode cX12_feud 26 = .ok (.invokestatic 284, 3) := by decide +kernel
theorem dX12_feud_29 : decode cX12_feud 29 = .ok (.goto 8, 3) := by decide +kernel
theorem dX12_feud_32 : decode cX12_feud 32 = .ok (.aload_n 0, 1) := by decide +kernel
theorem dX12_feud_33 : decode cX12_feud 33 = .ok (.iconst 1, 1) := by decide +kernel
theorem dX12_feud_34 : decode cX12_feud 34 = .ok (.invokevirtual 411, 3) := by decide +kernel
theorem dX12_feud_37 : decode cX12_feud 37 = .ok (.ireturn, 1) := by decide +kernel
theorem dX12_refuse_0 : decode cX12_refuse 0 = .ok (.aload_n 0, 1) := by decide +kernel
theorem dX12_refuse_1 : decode cX12_refuse 1 = .ok (.getfield 60, 3) := by decide +kernel
theorem dX12_refuse_4 : decode cX12_refuse 4 = .ok (.iload_n 1, 1) := by decide +kernel
theorem dX12_refuse_5 : decode cX12_refuse 5 = .ok (.dup2, 1) := by decide +kernel
theorem dX12_refuse_6 : decode cX12_refuse 6 = .ok (.iaload, 1) := by decide +kernel
theorem dX12_refuse_7 : decode cX12_refuse 7 = .ok (.iconst 1, 1) := by decide +kernel
theorem dX12_refuse_8 : decode cX12_refuse 8 = .ok (.iadd, 1) := by decide +kernel
theorem dX12_refuse_9 : decode cX12_refuse 9 = .ok (.iastore, 1) := by decide +kernel
theorem dX12_refuse_10 : decode cX12_refuse 10 = .ok (.iconst (-1), 1) := by decide +kernel
theorem dX12_refuse_11 : decode cX12_refuse 11 = .ok (.ireturn, 1) := by decide +kernel
theorem dX12_keep_0 : decode cX12_keep 0 = .ok (.aload_n 0, 1) := by decide +kernel
theorem dX12_keep_1 : decode cX12_keep 1 = .ok (.getfield 330, 3) := by decide +kernel
theorem dX12_keep_4 : decode cX12_keep 4 = .ok (.bipush 40, 2) := by decide +kernel
theorem dX12_keep_6 : decode cX12_keep 6 = .ok (.if_icmp .ne 46, 3) := by decide +kernel
theorem dX12_keep_9 : decode cX12_keep 9 = .ok (.bipush 88, 2) := by decide +kernel
theorem dX12_keep_11 : decode cX12_keep 11 = .ok (.istore_n 1, 1) := by decide +kernel
theorem dX12_keep_12 : decode cX12_keep 12 = .ok (.iload_n 1, 1) := by decide +kernel
theorem dX12_keep_13 : decode cX12_keep 13 = .ok (.aload_n 0, 1) := by decide +kernel
theorem dX12_keep_14 : decode cX12_keep 14 = .ok (.getfield 87, 3) := by decide +kernel
theorem dX12_keep_17 : decode cX12_keep 17 = .ok (.arraylength, 1) := by decide +kernel
theorem dX12_keep_18 : decode cX12_keep 18 = .ok (.if_icmp .ge 24, 3) := by decide +kernel
theorem dX12_keep_21 : decode cX12_keep 21 = .ok (.aload_n 0, 1) := by decide +kernel
theorem dX12_keep_22 : decode cX12_keep 22 = .ok (.getfield 87, 3) := by decide +kernel
theorem dX12_keep_25 : decode cX12_keep 25 = .ok (.iload_n 1, 1) := by decide +kernel
theorem dX12_keep_26 : decode cX12_keep 26 = .ok (.bipush 88, 2) := by decide +kernel
theorem dX12_keep_28 : decode cX12_keep 28 = .ok (.isub, 1) := by decide +kernel
theorem dX12_keep_29 : decode cX12_keep 29 = .ok (.aload_n 0, 1) := by decide +kernel
theorem dX12_keep_30 : decode cX12_keep 30 = .ok (.getfield 87, 3) := by decide +kernel
theorem dX12_keep_33 : decode cX12_keep 33 = .ok (.iload_n 1, 1) := by decide +kernel
theorem dX12_keep_34 : decode cX12_keep 34 = .ok (.iaload, 1) := by decide +kernel
theorem dX12_keep_35 : decode cX12_keep 35 = .ok (.iastore, 1) := by decide +kernel
theorem dX12_keep_36 : decode cX12_keep 36 = .ok (.iinc 1 1, 3) := by decide +kernel
theorem dX12_keep_39 : decode cX12_keep 39 = .ok (.goto (-27), 3) := by decide +kernel
theorem dX12_keep_42 : decode cX12_keep 42 = .ok (.aload_n 0, 1) := by decide +kernel
theorem dX12_keep_43 : decode cX12_keep 43 = .ok (.dup, 1) := by decide +kernel
theorem dX12_keep_44 : decode cX12_keep 44 = .ok (.getfield 330, 3) := by decide +kernel
theorem dX12_keep_47 : decode cX12_keep 47 = .ok (.iconst 1, 1) := by decide +kernel
theorem dX12_keep_48 : decode cX12_keep 48 = .ok (.isub, 1) := by decide +kernel
theorem dX12_keep_49 : decode cX12_keep 49 = .ok (.putfield 330, 3) := by decide +kernel
theorem dX12_keep_52 : decode cX12_keep 52 = .ok (.aload_n 0, 1) := by decide +kernel
theorem dX12_keep_53 : decode cX12_keep 53 = .ok (.aload_n 0, 1) := by decide +kernel
theorem dX12_keep_54 : decode cX12_keep 54 = .ok (.getfield 87, 3) := by decide +kernel
theorem dX12_keep_57 : decode cX12_keep 57 = .ok (.bipush 88, 2) := by decide +kernel
theorem dX12_keep_59 : decode cX12_keep 59 = .ok (.aload_n 0, 1) := by decide +kernel
theorem dX12_keep_60 : decode cX12_keep 60 = .ok (.getfield 330, 3) := by decide +kernel
theorem dX12_keep_63 : decode cX12_keep 63 = .ok (.imul, 1) := by decide +kernel
theorem dX12_keep_64 : decode cX12_keep 64 = .ok (.invokevirtual 414, 3) := by decide +kernel
theorem dX12_keep_67 : decode cX12_keep 67 = .ok (.aload_n 0, 1) := by decide +kernel
theorem dX12_keep_68 : decode cX12_keep 68 = .ok (.dup, 1) := by decide +kernel
theorem dX12_keep_69 : decode cX12_keep 69 = .ok (.getfield 330, 3) := by decide +kernel
theorem dX12_keep_72 : decode cX12_keep 72 = .ok (.iconst 1, 1) := by decide +kernel
theorem dX12_keep_73 : decode cX12_keep 73 = .ok (.iadd, 1) := by decide +kernel
theorem dX12_keep_74 : decode cX12_keep 74 = .ok (.putfield 330, 3) := by decide +kernel
theorem dX12_keep_77 : decode cX12_keep 77 = .ok (.return_, 1) := by decide +kernel
theorem dX12_days_0 : decode cX12_days 0 = .ok (.aload_n 0, 1) := by decide +kernel
theorem dX12_days_1 : decode cX12_days 1 = .ok (.iconst 0, 1) := by decide +kernel
theorem dX12_days_2 : decode cX12_days 2 = .ok (.putfield 158, 3) := by decide +kernel
theorem dX12_days_5 : decode cX12_days 5 = .ok (.iload_n 1, 1) := by decide +kernel
theorem dX12_days_6 : decode cX12_days 6 = .ok (.i2l, 1) := by decide +kernel
theorem dX12_days_7 : decode cX12_days 7 = .ok (.lconst 1, 1) := by decide +kernel
theorem dX12_days_8 : decode cX12_days 8 = .ok (.ldc2_w 418, 3) := by decide +kernel
theorem dX12_days_11 : decode cX12_days 11 = .ok (.invokestatic 161, 3) := by decide +kernel
theorem dX12_days_14 : decode cX12_days 14 = .ok (.ifCond .eq 15, 3) := by decide +kernel
theorem dX12_days_17 : decode cX12_days 17 = .ok (.aload_n 0, 1) := by decide +kernel
theorem dX12_days_18 : decode cX12_days 18 = .ok (.getfield 325, 3) := by decide +kernel
theorem dX12_days_21 : decode cX12_days 21 = .ok (.iload_n 1, 1) := by decide +kernel
theorem dX12_days_22 : decode cX12_days 22 = .ok (.iadd, 1) := by decide +kernel
theorem dX12_days_23 : decode cX12_days 23 = .ok (.sipush 999, 3) := by decide +kernel
theorem dX12_days_26 : decode cX12_days 26 = .ok (.if_icmp .le 9, 3) := by decide +kernel
theorem dX12_days_29 : decode cX12_days 29 = .ok (.aload_n 0, 1) := by decide +kernel
theorem dX12_days_30 : decode cX12_days 30 = .ok (.iconst 1, 1) := by decide +kernel
theorem dX12_days_31 : decode cX12_days 31 = .ok (.invokevirtual 420, 3) := by decide +kernel
theorem dX12_days_34 : decode cX12_days 34 = .ok (.ireturn, 1) := by decide +kernel
theorem dX12_days_35 : decode cX12_days 35 = .ok (.aload_n 0, 1) := by decide +kernel
theorem dX12_days_36 : decode cX12_days 36 = .ok (.invokevirtual 423, 3) := by decide +kernel
theorem dX12_days_39 : decode cX12_days 39 = .ok (.aload_n 0, 1) := by decide +kernel
theorem dX12_days_40 : decode cX12_days 40 = .ok (.iload_n 1, 1) := by decide +kernel
theorem dX12_days_41 : decode cX12_days 41 = .ok (.invokevirtual 426, 3) := by decide +kernel
theorem dX12_days_44 : decode cX12_days 44 = .ok (.aload_n 0, 1) := by decide +kernel
theorem dX12_days_45 : decode cX12_days 45 = .ok (.getfield 325, 3) := by decide +kernel
theorem dX12_days_48 : decode cX12_days 48 = .ok (.ireturn, 1) := by decide +kernel
theorem dX12_swallow_0 : decode cX12_swallow 0 = .ok (.aload_n 0, 1) := by decide +kernel
theorem dX12_swallow_1 : decode cX12_swallow 1 = .ok (.iconst 0, 1) := by decide +kernel
theorem dX12_swallow_2 : decode cX12_swallow 2 = .ok (.putfield 158, 3) := by decide +kernel
theorem dX12_swallow_5 : decode cX12_swallow 5 = .ok (.aload_n 0, 1) := by decide +kernel
theorem dX12_swallow_6 : decode cX12_swallow 6 = .ok (.iload_n 1, 1) := by decide +kernel
theorem dX12_swallow_7 : decode cX12_swallow 7 = .ok (.invokevirtual 399, 3) := by decide +kernel
theorem dX12_swallow_10 : decode cX12_swallow 10 = .ok (.ifCond .eq 11, 3) := by decide +kernel
theorem dX12_swallow_13 : decode cX12_swallow 13 = .ok (.aload_n 0, 1) := by decide +kernel
theorem dX12_swallow_14 : decode cX12_swallow 14 = .ok (.iload_n 2, 1) := by decide +kernel
theorem dX12_swallow_15 : decode cX12_swallow 15 = .ok (.invokevirtual 402, 3) := by decide +kernel
theorem dX12_swallow_18 : decode cX12_swallow 18 = .ok (.ifCond .ne 9, 3) := by decide +kernel
theorem dX12_swallow_21 : decode cX12_swallow 21 = .ok (.aload_n 0, 1) := by decide +kernel
theorem dX12_swallow_22 : decode cX12_swallow 22 = .ok (.iconst 1, 1) := by decide +kernel
theorem dX12_swallow_23 : decode cX12_swallow 23 = .ok (.invokevirtual 312, 3) := by decide +kernel
theorem dX12_swallow_26 : decode cX12_swallow 26 = .ok (.ireturn, 1) := by decide +kernel
theorem dX12_swallow_27 : decode cX12_swallow 27 = .ok (.aload_n 0, 1) := by decide +kernel
theorem dX12_swallow_28 : decode cX12_swallow 28 = .ok (.getfield 72, 3) := by decide +kernel
theorem dX12_swallow_31 : decode cX12_swallow 31 = .ok (.iload_n 1, 1) := by decide +kernel
theorem dX12_swallow_32 : decode cX12_swallow 32 = .ok (.iaload, 1) := by decide +kernel
theorem dX12_swallow_33 : decode cX12_swallow 33 = .ok (.ifCond .ne 17, 3) := by decide +kernel
theorem dX12_swallow_36 : decode cX12_swallow 36 = .ok (.aload_n 0, 1) := by decide +kernel
theorem dX12_swallow_37 : decode cX12_swallow 37 = .ok (.getfield 49, 3) := by decide +kernel
theorem dX12_swallow_40 : decode cX12_swallow 40 = .ok (.iload_n 1, 1) := by decide +kernel
theorem dX12_swallow_41 : decode cX12_swallow 41 = .ok (.iaload, 1) := by decide +kernel
theorem dX12_swallow_42 : decode cX12_swallow 42 = .ok (.aload_n 0, 1) := by decide +kernel
theorem dX12_swallow_43 : decode cX12_swallow 43 = .ok (.iload_n 2, 1) := by decide +kernel
theorem dX12_swallow_44 : decode cX12_swallow 44 = .ok (.invokevirtual 405, 3) := by decide +kernel
theorem dX12_swallow_47 : decode cX12_swallow 47 = .ok (.if_icmp .le 9, 3) := by decide +kernel
theorem dX12_swallow_50 : decode cX12_swallow 50 = .ok (.aload_n 0, 1) := by decide +kernel
theorem dX12_swallow_51 : decode cX12_swallow 51 = .ok (.iconst 1, 1) := by decide +kernel
theorem dX12_swallow_52 : decode cX12_swallow 52 = .ok (.invokevirtual 420, 3) := by decide +kernel
theorem dX12_swallow_55 : decode cX12_swallow 55 = .ok (.ireturn, 1) := by decide +kernel
theorem dX12_swallow_56 : decode cX12_swallow 56 = .ok (.aload_n 0, 1) := by decide +kernel
theorem dX12_swallow_57 : decode cX12_swallow 57 = .ok (.invokevirtual 423, 3) := by decide +kernel
theorem dX12_swallow_60 : decode cX12_swallow 60 = .ok (.aload_n 0, 1) := by decide +kernel
theorem dX12_swallow_61 : decode cX12_swallow 61 = .ok (.iload_n 1, 1) := by decide +kernel
theorem dX12_swallow_62 : decode cX12_swallow 62 = .ok (.iload_n 2, 1) := by decide +kernel
theorem dX12_swallow_63 : decode cX12_swallow 63 = .ok (.invokevirtual 429, 3) := by decide +kernel
theorem dX12_swallow_66 : decode cX12_swallow 66 = .ok (.aload_n 0, 1) := by decide +kernel
theorem dX12_swallow_67 : decode cX12_swallow 67 = .ok (.iload_n 2, 1) := by decide +kernel
theorem dX12_swallow_68 : decode cX12_swallow 68 = .ok (.invokevirtual 405, 3) := by decide +kernel
theorem dX12_swallow_71 : decode cX12_swallow 71 = .ok (.ireturn, 1) := by decide +kernel
theorem dX12_draw_0 : decode cX12_draw 0 = .ok (.aload_n 0, 1) := by decide +kernel
theorem dX12_draw_1 : decode cX12_draw 1 = .ok (.iconst 0, 1) := by decide +kernel
theorem dX12_draw_2 : decode cX12_draw 2 = .ok (.putfield 158, 3) := by decide +kernel
theorem dX12_draw_5 : decode cX12_draw 5 = .ok (.aload_n 0, 1) := by decide +kernel
theorem dX12_draw_6 : decode cX12_draw 6 = .ok (.iload_n 1, 1) := by decide +kernel
theorem dX12_draw_7 : decode cX12_draw 7 = .ok (.invokevirtual 402, 3) := by decide +kernel
theorem dX12_draw_10 : decode cX12_draw 10 = .ok (.ifCond .ne 9, 3) := by decide +kernel
theorem dX12_draw_13 : decode cX12_draw 13 = .ok (.aload_n 0, 1) := by decide +kernel
theorem dX12_draw_14 : decode cX12_draw 14 = .ok (.iconst 1, 1) := by decide +kernel
theorem dX12_draw_15 : decode cX12_draw 15 = .ok (.invokevirtual 312, 3) := by decide +kernel
theorem dX12_draw_18 : decode cX12_draw 18 = .ok (.ireturn, 1) := by decide +kernel
theorem dX12_draw_19 : decode cX12_draw 19 = .ok (.aload_n 0, 1) := by decide +kernel
theorem dX12_draw_20 : decode cX12_draw 20 = .ok (.getfield 78, 3) := by decide +kernel
theorem dX12_draw_23 : decode cX12_draw 23 = .ok (.iload_n 1, 1) := by decide +kernel
theorem dX12_draw_24 : decode cX12_draw 24 = .ok (.iaload, 1) := by decide +kernel
theorem dX12_draw_25 : decode cX12_draw 25 = .ok (.ifCond .ne 9, 3) := by decide +kernel
theorem dX12_draw_28 : decode cX12_draw 28 = .ok (.aload_n 0, 1) := by decide +kernel
theorem dX12_draw_29 : decode cX12_draw 29 = .ok (.iconst 1, 1) := by decide +kernel
theorem dX12_draw_30 : decode cX12_draw 30 = .ok (.invokevirtual 420, 3) := by decide +kernel
theorem dX12_draw_33 : decode cX12_draw 33 = .ok (.ireturn, 1) := by decide +kernel
theorem dX12_draw_34 : decode cX12_draw 34 = .ok (.aload_n 0, 1) := by decide +kernel
theorem dX12_draw_35 : decode cX12_draw 35 = .ok (.invokevirtual 423, 3) := by decide +kernel
theorem dX12_draw_38 : decode cX12_draw 38 = .ok (.aload_n 0, 1) := by decide +kernel
theorem dX12_draw_39 : decode cX12_draw 39 = .ok (.iload_n 1, 1) := by decide +kernel
theorem dX12_draw_40 : decode cX12_draw 40 = .ok (.invokevirtual 387, 3) := by decide +kernel
theorem dX12_draw_43 : decode cX12_draw 43 = .ok (.istore_n 2, 1) := by decide +kernel
theorem dX12_draw_44 : decode cX12_draw 44 = .ok (.aload_n 0, 1) := by decide +kernel
theorem dX12_draw_45 : decode cX12_draw 45 = .ok (.iload_n 2, 1) := by decide +kernel
theorem dX12_draw_46 : decode cX12_draw 46 = .ok (.iconst 0, 1) := by decide +kernel
theorem dX12_draw_47 : decode cX12_draw 47 = .ok (.invokevirtual 377, 3) := by decide +kernel
theorem dX12_draw_50 : decode cX12_draw 50 = .ok (.iload_n 2, 1) := by decide +kernel
theorem dX12_draw_51 : decode cX12_draw 51 = .ok (.ireturn, 1) := by decide +kernel
theorem dX12_broth_0 : decode cX12_broth 0 = .ok (.aload_n 0, 1) := by decide +kernel
theorem dX12_broth_1 : decode cX12_broth 1 = .ok (.iconst 0, 1) := by decide +kernel
theorem dX12_broth_2 : decode cX12_broth 2 = .ok (.putfield 158, 3) := by decide +kernel
theorem dX12_broth_5 : decode cX12_broth 5 = .ok (.aload_n 0, 1) := by decide +kernel
theorem dX12_broth_6 : decode cX12_broth 6 = .ok (.iload_n 1, 1) := by decide +kernel
theorem dX12_broth_7 : decode cX12_broth 7 = .ok (.invokevirtual 402, 3) := by decide +kernel
theorem dX12_broth_10 : decode cX12_broth 10 = .ok (.ifCond .ne 9, 3) := by decide +kernel
theorem dX12_broth_13 : decode cX12_broth 13 = .ok (.aload_n 0, 1) := by decide +kernel
theorem dX12_broth_14 : decode cX12_broth 14 = .ok (.iconst 1, 1) := by decide +kernel
theorem dX12_broth_15 : decode cX12_broth 15 = .ok (.invokevirtual 312, 3) := by decide +kernel
theorem dX12_broth_18 : decode cX12_broth 18 = .ok (.ireturn, 1) := by decide +kernel
theorem dX12_broth_19 : decode cX12_broth 19 = .ok (.iload_n 2, 1) := by decide +kernel
theorem dX12_broth_20 : decode cX12_broth 20 = .ok (.i2l, 1) := by decide +kernel
theorem dX12_broth_21 : decode cX12_broth 21 = .ok (.lconst 1, 1) := by decide +kernel
theorem dX12_broth_22 : decode cX12_broth 22 = .ok (.ldc2_w 418, 3) := by decide +kernel
theorem dX12_broth_25 : decode cX12_broth 25 = .ok (.invokestatic 161, 3) := by decide +kernel
theorem dX12_broth_28 : decode cX12_broth 28 = .ok (.ifCond .ne 9, 3) := by decide +kernel
theorem dX12_broth_31 : decode cX12_broth 31 = .ok (.aload_n 0, 1) := by decide +kernel
theorem dX12_broth_32 : decode cX12_broth 32 = .ok (.iconst 1, 1) := by decide +kernel
theorem dX12_broth_33 : decode cX12_broth 33 = .ok (.invokevirtual 420, 3) := by decide +kernel
theorem dX12_broth_36 : decode cX12_broth 36 = .ok (.ireturn, 1) := by decide +kernel
theorem dX12_broth_37 : decode cX12_broth 37 = .ok (.aload_n 0, 1) := by decide +kernel
theorem dX12_broth_38 : decode cX12_broth 38 = .ok (.invokevirtual 423, 3) := by decide +kernel
theorem dX12_broth_41 : decode cX12_broth 41 = .ok (.aload_n 0, 1) := by decide +kernel
theorem dX12_broth_42 : decode cX12_broth 42 = .ok (.getfield 75, 3) := by decide +kernel
theorem dX12_broth_45 : decode cX12_broth 45 = .ok (.iload_n 1, 1) := by decide +kernel
theorem dX12_broth_46 : decode cX12_broth 46 = .ok (.bipush 99, 2) := by decide +kernel
theorem dX12_broth_48 : decode cX12_broth 48 = .ok (.aload_n 0, 1) := by decide +kernel
theorem dX12_broth_49 : decode cX12_broth 49 = .ok (.getfield 75, 3) := by decide +kernel
theorem dX12_broth_52 : decode cX12_broth 52 = .ok (.iload_n 1, 1) := by decide +kernel
theorem dX12_broth_53 : decode cX12_broth 53 = .ok (.iaload, 1) := by decide +kernel
theorem dX12_broth_54 : decode cX12_broth 54 = .ok (.iload_n 2, 1) := by decide +kernel
theorem dX12_broth_55 : decode cX12_broth 55 = .ok (.iadd, 1) := by decide +kernel
theorem dX12_broth_56 : decode cX12_broth 56 = .ok (.invokestatic 197, 3) := by decide +kernel
theorem dX12_broth_59 : decode cX12_broth 59 = .ok (.iastore, 1) := by decide +kernel
theorem dX12_broth_60 : decode cX12_broth 60 = .ok (.aload_n 0, 1) := by decide +kernel
theorem dX12_broth_61 : decode cX12_broth 61 = .ok (.getfield 75, 3) := by decide +kernel
theorem dX12_broth_64 : decode cX12_broth 64 = .ok (.iload_n 1, 1) := by decide +kernel
theorem dX12_broth_65 : decode cX12_broth 65 = .ok (.iaload, 1) := by decide +kernel
theorem dX12_broth_66 : decode cX12_broth 66 = .ok (.ireturn, 1) := by decide +kernel
theorem dX12_make_0 : decode cX12_make 0 = .ok (.aload_n 0, 1) := by decide +kernel
theorem dX12_make_1 : decode cX12_make 1 = .ok (.iconst 0, 1) := by decide +kernel
theorem dX12_make_2 : decode cX12_make 2 = .ok (.putfield 158, 3) := by decide +kernel
theorem dX12_make_5 : decode cX12_make 5 = .ok (.iload_n 1, 1) := by decide +kernel
theorem dX12_make_6 : decode cX12_make 6 = .ok (.invokestatic 408, 3) := by decide +kernel
theorem dX12_make_9 : decode cX12_make 9 = .ok (.ifCond .eq 10, 3) := by decide +kernel
theorem dX12_make_12 : decode cX12_make 12 = .ok (.iload_n 2, 1) := by decide +kernel
theorem dX12_make_13 : decode cX12_make 13 = .ok (.invokestatic 408, 3) := by decide +kernel
theorem dX12_make_16 : decode cX12_make 16 = .ok (.ifCond .ne 9, 3) := by decide +kernel
theorem dX12_make_19 : decode cX12_make 19 = .ok (.aload_n 0, 1) := by decide +kernel
theorem dX12_make_20 : decode cX12_make 20 = .ok (.iconst 1, 1) := by decide +kernel
theorem dX12_make_21 : decode cX12_make 21 = .ok (.invokevirtual 411, 3) := by decide +kernel
theorem dX12_make_24 : decode cX12_make 24 = .ok (.ireturn, 1) := by decide +kernel
theorem dX12_make_25 : decode cX12_make 25 = .ok (.iload_n 1, 1) := by decide +kernel
theorem dX12_make_26 : decode cX12_make 26 = .ok (.iload_n 2, 1) := by decide +kernel
theorem dX12_make_27 : decode cX12_make 27 = .ok (.if_icmp .eq 17, 3) := by decide +kernel
theorem dX12_make_30 : decode cX12_make 30 = .ok (.aload_n 0, 1) := by decide +kernel
theorem dX12_make_31 : decode cX12_make 31 = .ok (.getfield 84, 3) := by decide +kernel
theorem dX12_make_34 : decode cX12_make 34 = .ok (.iload_n 1, 1) := by decide +kernel
theorem dX12_make_35 : decode cX12_make 35 = .ok (.iaload, 1) := by decide +kernel
theorem dX12_make_36 : decode cX12_make 36 = .ok (.iload_n 2, 1) := by decide +kernel
theorem dX12_make_37 : decode cX12_make 37 = .ok (.invokestatic 284, 3) := by decide +kernel
theorem dX12_make_40 : decode cX12_make 40 = .ok (.iload_n 3, 1) := by decide +kernel
theorem dX12_make_41 : decode cX12_make 41 = .ok (.if_icmp .ne 15, 3) := by decide +kernel
theorem dX12_make_44 : decode cX12_make 44 = .ok (.aload_n 0, 1) := by decide +kernel
theorem dX12_make_45 : decode cX12_make 45 = .ok (.getfield 60, 3) := by decide +kernel
theorem dX12_make_48 : decode cX12_make 48 = .ok (.iconst 1, 1) := by decide +kernel
theorem dX12_make_49 : decode cX12_make 49 = .ok (.dup2, 1) := by decide +kernel
theorem dX12_make_50 : decode cX12_make 50 = .ok (.iaload, 1) := by decide +kernel
theorem dX12_make_51 : decode cX12_make 51 = .ok (.iconst 1, 1) := by decide +kernel
theorem dX12_make_52 : decode cX12_make 52 = .ok (.iadd, 1) := by decide +kernel
theorem dX12_make_53 : decode cX12_make 53 = .ok (.iastore, 1) := by decide +kernel
theorem dX12_make_54 : decode cX12_make 54 = .ok (.iconst 0, 1) := by decide +kernel
theorem dX12_make_55 : decode cX12_make 55 = .ok (.ireturn, 1) := by decide +kernel
theorem dX12_make_56 : decode cX12_make 56 = .ok (.aload_n 0, 1) := by decide +kernel
theorem dX12_make_57 : decode cX12_make 57 = .ok (.invokevirtual 423, 3) := by decide +kernel
theorem dX12_make_60 : decode cX12_make 60 = .ok (.aload_n 0, 1) := by decide +kernel
theorem dX12_make_61 : decode cX12_make 61 = .ok (.getfield 84, 3) := by decide +kernel
theorem dX12_make_64 : decode cX12_make 64 = .ok (.iload_n 1, 1) := by decide +kernel
theorem dX12_make_65 : decode cX12_make 65 = .ok (.dup2, 1) := by decide +kernel
theorem dX12_make_66 : decode cX12_make 66 = .ok (.iaload, 1) := by decide +kernel
theorem dX12_make_67 : decode cX12_make 67 = .ok (.iconst 1, 1) := by decide +kernel
theorem dX12_make_68 : decode cX12_make 68 = .ok (.iload_n 2, 1) := by decide +kernel
theorem dX12_make_69 : decode cX12_make 69 = .ok (.ishl, 1) := by decide +kernel
theorem dX12_make_70 : decode cX12_make 70 = .ok (.ixor, 1) := by decide +kernel
theorem dX12_make_71 : decode cX12_make 71 = .ok (.iastore, 1) := by decide +kernel
theorem dX12_make_72 : decode cX12_make 72 = .ok (.aload_n 0, 1) := by decide +kernel
theorem dX12_make_73 : decode cX12_make 73 = .ok (.getfield 84, 3) := by decide +kernel
theorem dX12_make_76 : decode cX12_make 76 = .ok (.iload_n 2, 1) := by decide +kernel
theorem dX12_make_77 : decode cX12_make 77 = .ok (.dup2, 1) := by decide +kernel
theorem dX12_make_78 : decode cX12_make 78 = .ok (.iaload, 1) := by decide +kernel
theorem dX12_make_79 : decode cX12_make 79 = .ok (.iconst 1, 1) := by decide +kernel
theorem dX12_make_80 : decode cX12_make 80 = .ok (.iload_n 1, 1) := by decide +kernel
theorem dX12_make_81 : decode cX12_make 81 = .ok (.ishl, 1) := by decide +kernel
theorem dX12_make_82 : decode cX12_make 82 = .ok (.ixor, 1) := by decide +kernel
theorem dX12_make_83 : decode cX12_make 83 = .ok (.iastore, 1) := by decide +kernel
theorem dX12_make_84 : decode cX12_make 84 = .ok (.iconst 1, 1) := by decide +kernel
theorem dX12_make_85 : decode cX12_make 85 = .ok (.ireturn, 1) := by decide +kernel
theorem dX12_undo_0 : decode cX12_undo 0 = .ok (.aload_n 0, 1) := by decide +kernel
theorem dX12_undo_1 : decode cX12_undo 1 = .ok (.iconst 0, 1) := by decide +kernel
theorem dX12_undo_2 : decode cX12_undo 2 = .ok (.putfield 158, 3) := by decide +kernel
theorem dX12_undo_5 : decode cX12_undo 5 = .ok (.aload_n 0, 1) := by decide +kernel
theorem dX12_undo_6 : decode cX12_undo 6 = .ok (.getfield 330, 3) := by decide +kernel
theorem dX12_undo_9 : decode cX12_undo 9 = .ok (.ifCond .ne 5, 3) := by decide +kernel
theorem dX12_undo_12 : decode cX12_undo 12 = .ok (.iconst (-1), 1) := by decide +kernel
theorem dX12_undo_13 : decode cX12_undo 13 = .ok (.ireturn, 1) := by decide +kernel
theorem dX12_undo_14 : decode cX12_undo 14 = .ok (.aload_n 0, 1) := by decide +kernel
theorem dX12_undo_15 : decode cX12_undo 15 = .ok (.dup, 1) := by decide +kernel
theorem dX12_undo_16 : decode cX12_undo 16 = .ok (.getfield 330, 3) := by decide +kernel
theorem dX12_undo_19 : decode cX12_undo 19 = .ok (.iconst 1, 1) := by decide +kernel
theorem dX12_undo_20 : decode cX12_undo 20 = .ok (.isub, 1) := by decide +kernel
theorem dX12_undo_21 : decode cX12_undo 21 = .ok (.putfield 330, 3) := by decide +kernel
theorem dX12_undo_24 : decode cX12_undo 24 = .ok (.aload_n 0, 1) := by decide +kernel
theorem dX12_undo_25 : decode cX12_undo 25 = .ok (.aload_n 0, 1) := by decide +kernel
theorem dX12_undo_26 : decode cX12_undo 26 = .ok (.getfield 87, 3) := by decide +kernel
theorem dX12_undo_29 : decode cX12_undo 29 = .ok (.bipush 88, 2) := by decide +kernel
theorem dX12_undo_31 : decode cX12_undo 31 = .ok (.aload_n 0, 1) := by decide +kernel
theorem dX12_undo_32 : decode cX12_undo 32 = .ok (.getfield 330, 3) := by decide +kernel
theorem dX12_undo_35 : decode cX12_undo 35 = .ok (.imul, 1) := by decide +kernel
theorem dX12_undo_36 : decode cX12_undo 36 = .ok (.invokevirtual 432, 3) := by decide +kernel
theorem dX12_undo_39 : decode cX12_undo 39 = .ok (.aload_n 0, 1) := by decide +kernel
theorem dX12_undo_40 : decode cX12_undo 40 = .ok (.getfield 330, 3) := by decide +kernel
theorem dX12_undo_43 : decode cX12_undo 43 = .ok (.ireturn, 1) := by decide +kernel
theorem dX12_then_0 : decode cX12_then 0 = .ok (.aload_n 0, 1) := by decide +kernel
theorem dX12_then_1 : decode cX12_then 1 = .ok (.iconst 0, 1) := by decide +kernel
theorem dX12_then_2 : decode cX12_then 2 = .ok (.putfield 158, 3) := by decide +kernel
theorem dX12_then_5 : decode cX12_then 5 = .ok (.aload_n 0, 1) := by decide +kernel
theorem dX12_then_6 : decode cX12_then 6 = .ok (.iload_n 1, 1) := by decide +kernel
theorem dX12_then_7 : decode cX12_then 7 = .ok (.invokevirtual 399, 3) := by decide +kernel
theorem dX12_then_10 : decode cX12_then 10 = .ok (.ifCond .eq 12, 3) := by decide +kernel
theorem dX12_then_13 : decode cX12_then 13 = .ok (.iload_n 3, 1) := by decide +kernel
theorem dX12_then_14 : decode cX12_then 14 = .ok (.ifCond .lt 8, 3) := by decide +kernel
theorem dX12_then_17 : decode cX12_then 17 = .ok (.iload_n 3, 1) := by decide +kernel
theorem dX12_then_18 : decode cX12_then 18 = .ok (.iconst 1, 1) := by decide +kernel
theorem dX12_then_19 : decode cX12_then 19 = .ok (.if_icmp .le 9, 3) := by decide +kernel
theorem dX12_then_22 : decode cX12_then 22 = .ok (.aload_n 0, 1) := by decide +kernel
theorem dX12_then_23 : decode cX12_then 23 = .ok (.iconst 1, 1) := by decide +kernel
theorem dX12_then_24 : decode cX12_then 24 = .ok (.invokevirtual 312, 3) := by decide +kernel
theorem dX12_then_27 : decode cX12_then 27 = .ok (.ireturn, 1) := by decide +kernel
theorem dX12_then_28 : decode cX12_then 28 = .ok (.iload_n 2, 1) := by decide +kernel
theorem dX12_then_29 : decode cX12_then 29 = .ok (.i2l, 1) := by decide +kernel
theorem dX12_then_30 : decode cX12_then 30 = .ok (.lconst 0, 1) := by decide +kernel
theorem dX12_then_31 : decode cX12_then 31 = .ok (.ldc2_w 435, 3) := by decide +kernel
theorem dX12_then_34 : decode cX12_then 34 = .ok (.invokestatic 161, 3) := by decide +kernel
theorem dX12_then_37 : decode cX12_then 37 = .ok (.ifCond .ne 9, 3) := by decide +kernel
theorem dX12_then_40 : decode cX12_then 40 = .ok (.aload_n 0, 1) := by decide +kernel
theorem dX12_then_41 : decode cX12_then 41 = .ok (.iconst 2, 1) := by decide +kernel
theorem dX12_then_42 : decode cX12_then 42 = .ok (.invokevirtual 312, 3) := by decide +kernel
theorem dX12_then_45 : decode cX12_then 45 = .ok (.ireturn, 1) := by decide +kernel
theorem dX12_then_46 : decode cX12_then 46 = .ok (.aload_n 0, 1) := by decide +kernel
theorem dX12_then_47 : decode cX12_then 47 = .ok (.aload_n 0, 1) := by decide +kernel
theorem dX12_then_48 : decode cX12_then 48 = .ok (.getfield 102, 3) := by decide +kernel
theorem dX12_then_51 : decode cX12_then 51 = .ok (.iconst 0, 1) := by decide +kernel
theorem dX12_then_52 : decode cX12_then 52 = .ok (.invokevirtual 414, 3) := by decide +kernel
theorem dX12_then_55 : decode cX12_then 55 = .ok (.aload_n 0, 1) := by decide +kernel
theorem dX12_then_56 : decode cX12_then 56 = .ok (.iload_n 2, 1) := by decide +kernel
theorem dX12_then_57 : decode cX12_then 57 = .ok (.invokevirtual 426, 3) := by decide +kernel
theorem dX12_then_60 : decode cX12_then 60 = .ok (.iload_n 3, 1) := by decide +kernel
theorem dX12_then_61 : decode cX12_then 61 = .ok (.ifCond .ne 12, 3) := by decide +kernel
theorem dX12_then_64 : decode cX12_then 64 = .ok (.aload_n 0, 1) := by decide +kernel
theorem dX12_then_65 : decode cX12_then 65 = .ok (.getfield 70, 3) := by decide +kernel
theorem dX12_then_68 : decode cX12_then 68 = .ok (.iload_n 1, 1) := by decide +kernel
theorem dX12_then_69 : decode cX12_then 69 = .ok (.iaload, 1) := by decide +kernel
theorem dX12_then_70 : decode cX12_then 70 = .ok (.goto 9, 3) := by decide +kernel
theorem dX12_then_73 : decode cX12_then 73 = .ok (.aload_n 0, 1) := by decide +kernel
theorem dX12_then_74 : decode cX12_then 74 = .ok (.getfield 72, 3) := by decide +kernel
theorem dX12_then_77 : decode cX12_then 77 = .ok (.iload_n 1, 1) := by decide +kernel
theorem dX12_then_78 : decode cX12_then 78 = .ok (.iaload, 1) := by decide +kernel
theorem dX12_then_79 : decode cX12_then 79 = .ok (.istore 4, 2) := by decide +kernel
theorem dX12_then_81 : decode cX12_then 81 = .ok (.aload_n 0, 1) := by decide +kernel
theorem dX12_then_82 : decode cX12_then 82 = .ok (.aload_n 0, 1) := by decide +kernel
theorem dX12_then_83 : decode cX12_then 83 = .ok (.getfield 102, 3) := by decide +kernel
theorem dX12_then_86 : decode cX12_then 86 = .ok (.iconst 0, 1) := by decide +kernel
theorem dX12_then_87 : decode cX12_then 87 = .ok (.invokevirtual 432, 3) := by decide +kernel
theorem dX12_then_90 : decode cX12_then 90 = .ok (.iload 4, 2) := by decide +kernel
theorem dX12_then_92 : decode cX12_then 92 = .ok (.ireturn, 1) := by decide +kernel
theorem dX12_peaceOf_0 : decode cX12_peaceOf 0 = .ok (.aload_n 0, 1) := by decide +kernel
theorem dX12_peaceOf_1 : decode cX12_peaceOf 1 = .ok (.aload_n 0, 1) := by decide +kernel
theorem dX12_peaceOf_2 : decode cX12_peaceOf 2 = .ok (.getfield 105, 3) := by decide +kernel
theorem dX12_peaceOf_5 : decode cX12_peaceOf 5 = .ok (.iconst 0, 1) := by decide +kernel
theorem dX12_peaceOf_6 : decode cX12_peaceOf 6 = .ok (.invokevirtual 414, 3) := by decide +kernel
theorem dX12_peaceOf_9 : decode cX12_peaceOf 9 = .ok (.aload_n 0, 1) := by decide +kernel
theorem dX12_peaceOf_10 : decode cX12_peaceOf 10 = .ok (.getfield 327, 3) := by decide +kernel
theorem dX12_peaceOf_13 : decode cX12_peaceOf 13 = .ok (.istore_n 1, 1) := by decide +kernel
theorem dX12_peaceOf_14 : decode cX12_peaceOf 14 = .ok (.sipush 1000, 3) := by decide +kernel
theorem dX12_peaceOf_17 : decode cX12_peaceOf 17 = .ok (.istore_n 2, 1) := by decide +kernel
theorem dX12_peaceOf_18 : decode cX12_peaceOf 18 = .ok (.iconst 1, 1) := by decide +kernel
theorem dX12_peaceOf_19 : decode cX12_peaceOf 19 = .ok (.istore_n 3, 1) := by decide +kernel
theorem dX12_peaceOf_20 : decode cX12_peaceOf 20 = .ok (.iload_n 3, 1) := by decide +kernel
theorem dX12_peaceOf_21 : decode cX12_peaceOf 21 = .ok (.bipush 60, 2) := by decide +kernel
theorem dX12_peaceOf_23 : decode cX12_peaceOf 23 = .ok (.if_icmp .gt 30, 3) := by decide +kernel
theorem dX12_peaceOf_26 : decode cX12_peaceOf 26 = .ok (.iload_n 2, 1) := by decide +kernel
theorem dX12_peaceOf_27 : decode cX12_peaceOf 27 = .ok (.sipush 1000, 3) := by decide +kernel
theorem dX12_peaceOf_30 : decode cX12_peaceOf 30 = .ok (.if_icmp .ne 23, 3) := by decide +kernel
theorem dX12_peaceOf_33 : decode cX12_peaceOf 33 = .ok (.aload_n 0, 1) := by decide +kernel
theorem dX12_peaceOf_34 : decode cX12_peaceOf 34 = .ok (.invokevirtual 393, 3) := by decide +kernel
theorem dX12_peaceOf_37 : decode cX12_peaceOf 37 = .ok (.aload_n 0, 1) := by decide +kernel
theorem dX12_peaceOf_38 : decode cX12_peaceOf 38 = .ok (.getfield 327, 3) := by decide +kernel
theorem dX12_peaceOf_41 : decode cX12_peaceOf 41 = .ok (.iload_n 1, 1) := by decide +kernel
theorem dX12_peaceOf_42 : decode cX12_peaceOf 42 = .ok (.if_icmp .le 5, 3) := by decide +kernel
theorem dX12_peaceOf_45 : decode cX12_peaceOf 45 = .ok (.iload_n 3, 1) := by decide +kernel
theorem dX12_peaceOf_46 : decode cX12_peaceOf 46 = .ok (.istore_n 2, 1) := by decide +kernel
theorem dX12_peaceOf_47 : decode cX12_peaceOf 47 = .ok (.iinc 3 1, 3) := by decide +kernel
theorem dX12_peaceOf_50 : decode cX12_peaceOf 50 = .ok (.goto (-30), 3) := by decide +kernel
theorem dX12_peaceOf_53 : decode cX12_peaceOf 53 = .ok (.aload_n 0, 1) := by decide +kernel
theorem dX12_peaceOf_54 : decode cX12_peaceOf 54 = .ok (.aload_n 0, 1) := by decide +kernel
theorem dX12_peaceOf_55 : decode cX12_peaceOf 55 = .ok (.getfield 105, 3) := by decide +kernel
theorem dX12_peaceOf_58 : decode cX12_peaceOf 58 = .ok (.iconst 0, 1) := by decide +kernel
theorem dX12_peaceOf_59 : decode cX12_peaceOf 59 = .ok (.invokevirtual 432, 3) := by decide +kernel
theorem dX12_peaceOf_62 : decode cX12_peaceOf 62 = .ok (.iload_n 2, 1) := by decide +kernel
theorem dX12_peaceOf_63 : decode cX12_peaceOf 63 = .ok (.ireturn, 1) := by decide +kernel
theorem dX12_peace_0 : decode cX12_peace 0 = .ok (.aload_n 0, 1) := by decide +kernel
theorem dX12_peace_1 : decode cX12_peace 1 = .ok (.iconst 0, 1) := by decide +kernel
theorem dX12_peace_2 : decode cX12_peace 2 = .ok (.putfield 158, 3) := by decide +kernel
theorem dX12_peace_5 : decode cX12_peace 5 = .ok (.aload_n 0, 1) := by decide +kernel
theorem dX12_peace_6 : decode cX12_peace 6 = .ok (.invokevirtual 437, 3) := by decide +kernel
theorem dX12_peace_9 : decode cX12_peace 9 = .ok (.istore_n 1, 1) := by decide +kernel
theorem dX12_peace_10 : decode cX12_peace 10 = .ok (.iload_n 1, 1) := by decide +kernel
theorem dX12_peace_11 : decode cX12_peace 11 = .ok (.sipush 1000, 3) := by decide +kernel
theorem dX12_peace_14 : decode cX12_peace 14 = .ok (.if_icmp .ne 7, 3) := by decide +kernel
theorem dX12_peace_17 : decode cX12_peace 17 = .ok (.iconst (-1), 1) := by decide +kernel
theorem dX12_peace_18 : decode cX12_peace 18 = .ok (.goto 4, 3) := by decide +kernel
theorem dX12_peace_21 : decode cX12_peace 21 = .ok (.iload_n 1, 1) := by decide +kernel
theorem dX12_peace_22 : decode cX12_peace 22 = .ok (.ireturn, 1) := by decide +kernel
theorem dX12_fights_0 : decode cX12_fights 0 = .ok (.aload_n 0, 1) := by decide +kernel
theorem dX12_fights_1 : decode cX12_fights 1 = .ok (.iconst 0, 1) := by decide +kernel
theorem dX12_fights_2 : decode cX12_fights 2 = .ok (.putfield 158, 3) := by decide +kernel
theorem dX12_fights_5 : decode cX12_fights 5 = .ok (.iload_n 1, 1) := by decide +kernel
theorem dX12_fights_6 : decode cX12_fights 6 = .ok (.i2l, 1) := by decide +kernel
theorem dX12_fights_7 : decode cX12_fights 7 = .ok (.lconst 0, 1) := by decide +kernel
theorem dX12_fights_8 : decode cX12_fights 8 = .ok (.ldc2_w 435, 3) := by decide +kernel
theorem dX12_fights_11 : decode cX12_fights 11 = .ok (.invokestatic 161, 3) := by decide +kernel
theorem dX12_fights_14 : decode cX12_fights 14 = .ok (.ifCond .ne 9, 3) := by decide +kernel
theorem dX12_fights_17 : decode cX12_fights 17 = .ok (.aload_n 0, 1) := by decide +kernel
theorem dX12_fights_18 : decode cX12_fights 18 = .ok (.iconst 1, 1) := by decide +kernel
theorem dX12_fights_19 : decode cX12_fights 19 = .ok (.invokevirtual 312, 3) := by decide +kernel
theorem dX12_fights_22 : decode cX12_fights 22 = .ok (.ireturn, 1) := by decide +kernel
theorem dX12_fights_23 : decode cX12_fights 23 = .ok (.aload_n 0, 1) := by decide +kernel
theorem dX12_fights_24 : decode cX12_fights 24 = .ok (.aload_n 0, 1) := by decide +kernel
theorem dX12_fights_25 : decode cX12_fights 25 = .ok (.getfield 102, 3) := by decide +kernel
theorem dX12_fights_28 : decode cX12_fights 28 = .ok (.iconst 0, 1) := by decide +kernel
theorem dX12_fights_29 : decode cX12_fights 29 = .ok (.invokevirtual 414, 3) := by decide +kernel
theorem dX12_fights_32 : decode cX12_fights 32 = .ok (.aload_n 0, 1) := by decide +kernel
theorem dX12_fights_33 : decode cX12_fights 33 = .ok (.getfield 327, 3) := by decide +kernel
theorem dX12_fights_36 : decode cX12_fights 36 = .ok (.istore_n 2, 1) := by decide +kernel
theorem dX12_fights_37 : decode cX12_fights 37 = .ok (.aload_n 0, 1) := by decide +kernel
theorem dX12_fights_38 : decode cX12_fights 38 = .ok (.iload_n 1, 1) := by decide +kernel
theorem dX12_fights_39 : decode cX12_fights 39 = .ok (.invokevirtual 426, 3) := by decide +kernel
theorem dX12_fights_42 : decode cX12_fights 42 = .ok (.aload_n 0, 1) := by decide +kernel
theorem dX12_fights_43 : decode cX12_fights 43 = .ok (.getfield 327, 3) := by decide +kernel
theorem dX12_fights_46 : decode cX12_fights 46 = .ok (.iload_n 2, 1) := by decide +kernel
theorem dX12_fights_47 : decode cX12_fights 47 = .ok (.isub, 1) := by decide +kernel
theorem dX12_fights_48 : decode cX12_fights 48 = .ok (.istore_n 3, 1) := by decide +kernel
theorem dX12_fights_49 : decode cX12_fights 49 = .ok (.aload_n 0, 1) := by decide +kernel
theorem dX12_fights_50 : decode cX12_fights 50 = .ok (.aload_n 0, 1) := by decide +kernel
theorem dX12_fights_51 : decode cX12_fights 51 = .ok (.getfield 102, 3) := by decide +kernel
theorem dX12_fights_54 : decode cX12_fights 54 = .ok (.iconst 0, 1) := by decide +kernel
theorem dX12_fights_55 : decode cX12_fights 55 = .ok (.invokevirtual 432, 3) := by decide +kernel
theorem dX12_fights_58 : decode cX12_fights 58 = .ok (.iload_n 3, 1) := by decide +kernel
theorem dX12_fights_59 : decode cX12_fights 59 = .ok (.ireturn, 1) := by decide +kernel
theorem dX12_rests_0 : decode cX12_rests 0 = .ok (.aload_n 0, 1) := by decide +kernel
theorem dX12_rests_1 : decode cX12_rests 1 = .ok (.iconst 0, 1) := by decide +kernel
theorem dX12_rests_2 : decode cX12_rests 2 = .ok (.putfield 158, 3) := by decide +kernel
theorem dX12_rests_5 : decode cX12_rests 5 = .ok (.aload_n 0, 1) := by decide +kernel
theorem dX12_rests_6 : decode cX12_rests 6 = .ok (.iload_n 1, 1) := by decide +kernel
theorem dX12_rests_7 : decode cX12_rests 7 = .ok (.invokevirtual 399, 3) := by decide +kernel
theorem dX12_rests_10 : decode cX12_rests 10 = .ok (.ifCond .ne 9, 3) := by decide +kernel
theorem dX12_rests_13 : decode cX12_rests 13 = .ok (.aload_n 0, 1) := by decide +kernel
theorem dX12_rests_14 : decode cX12_rests 14 = .ok (.iconst 1, 1) := by decide +kernel
theorem dX12_rests_15 : decode cX12_rests 15 = .ok (.invokevirtual 312, 3) := by decide +kernel
theorem dX12_rests_18 : decode cX12_rests 18 = .ok (.ireturn, 1) := by decide +kernel
theorem dX12_rests_19 : decode cX12_rests 19 = .ok (.aload_n 0, 1) := by decide +kernel
theorem dX12_rests_20 : decode cX12_rests 20 = .ok (.aload_n 0, 1) := by decide +kernel
theorem dX12_rests_21 : decode cX12_rests 21 = .ok (.getfield 102, 3) := by decide +kernel
theorem dX12_rests_24 : decode cX12_rests 24 = .ok (.iconst 0, 1) := by decide +kernel
theorem dX12_rests_25 : decode cX12_rests 25 = .ok (.invokevirtual 414, 3) := by decide +kernel
theorem dX12_rests_28 : decode cX12_rests 28 = .ok (.iconst (-1), 1) := by decide +kernel
theorem dX12_rests_29 : decode cX12_rests 29 = .ok (.istore_n 2, 1) := by decide +kernel
theorem dX12_rests_30 : decode cX12_rests 30 = .ok (.iconst 0, 1) := by decide +kernel
theorem dX12_rests_31 : decode cX12_rests 31 = .ok (.istore_n 3, 1) := by decide +kernel
theorem dX12_rests_32 : decode cX12_rests 32 = .ok (.iload_n 3, 1) := by decide +kernel
theorem dX12_rests_33 : decode cX12_rests 33 = .ok (.bipush 60, 2) := by decide +kernel
theorem dX12_rests_35 : decode cX12_rests 35 = .ok (.if_icmp .gt 30, 3) := by decide +kernel
theorem dX12_rests_38 : decode cX12_rests 38 = .ok (.iload_n 2, 1) := by decide +kernel
theorem dX12_rests_39 : decode cX12_rests 39 = .ok (.iconst (-1), 1) := by decide +kernel
theorem dX12_rests_40 : decode cX12_rests 40 = .ok (.if_icmp .ne 25, 3) := by decide +kernel
theorem dX12_rests_43 : decode cX12_rests 43 = .ok (.aload_n 0, 1) := by decide +kernel
theorem dX12_rests_44 : decode cX12_rests 44 = .ok (.getfield 72, 3) := by decide +kernel
theorem dX12_rests_47 : decode cX12_rests 47 = .ok (.iload_n 1, 1) := by decide +kernel
theorem dX12_rests_48 : decode cX12_rests 48 = .ok (.iaload, 1) := by decide +kernel
theorem dX12_rests_49 : decode cX12_rests 49 = .ok (.iconst 2, 1) := by decide +kernel
theorem dX12_rests_50 : decode cX12_rests 50 = .ok (.if_icmp .ne 5, 3) := by decide +kernel
theorem dX12_rests_53 : decode cX12_rests 53 = .ok (.iload_n 3, 1) := by decide +kernel
theorem dX12_rests_54 : decode cX12_rests 54 = .ok (.istore_n 2, 1) := by decide +kernel
theorem dX12_rests_55 : decode cX12_rests 55 = .ok (.aload_n 0, 1) := by decide +kernel
theorem dX12_rests_56 : decode cX12_rests 56 = .ok (.invokevirtual 393, 3) := by decide +kernel
theorem dX12_rests_59 : decode cX12_rests 59 = .ok (.iinc 3 1, 3) := by decide +kernel
theorem dX12_rests_62 : decode cX12_rests 62 = .ok (.goto (-30), 3) := by decide +kernel
theorem dX12_rests_65 : decode cX12_rests 65 = .ok (.aload_n 0, 1) := by decide +kernel
theorem dX12_rests_66 : decode cX12_rests 66 = .ok (.aload_n 0, 1) := by decide +kernel
theorem dX12_rests_67 : decode cX12_rests 67 = .ok (.getfield 102, 3) := by decide +kernel
theorem dX12_rests_70 : decode cX12_rests 70 = .ok (.iconst 0, 1) := by decide +kernel
theorem dX12_rests_71 : decode cX12_rests 71 = .ok (.invokevirtual 432, 3) := by decide +kernel
theorem dX12_rests_74 : decode cX12_rests 74 = .ok (.iload_n 2, 1) := by decide +kernel
theorem dX12_rests_75 : decode cX12_rests 75 = .ok (.ireturn, 1) := by decide +kernel
theorem dX12_worst_0 : decode cX12_worst 0 = .ok (.aload_n 0, 1) := by decide +kernel
theorem dX12_worst_1 : decode cX12_worst 1 = .ok (.iconst 0, 1) := by decide +kernel
theorem dX12_worst_2 : decode cX12_worst 2 = .ok (.putfield 158, 3) := by decide +kernel
theorem dX12_worst_5 : decode cX12_worst 5 = .ok (.iload_n 1, 1) := by decide +kernel
theorem dX12_worst_6 : decode cX12_worst 6 = .ok (.i2l, 1) := by decide +kernel
theorem dX12_worst_7 : decode cX12_worst 7 = .ok (.lconst 0, 1) := by decide +kernel
theorem dX12_worst_8 : decode cX12_worst 8 = .ok (.ldc2_w 435, 3) := by decide +kernel
theorem dX12_worst_11 : decode cX12_worst 11 = .ok (.invokestatic 161, 3) := by decide +kernel
theorem dX12_worst_14 : decode cX12_worst 14 = .ok (.ifCond .ne 9, 3) := by decide +kernel
theorem dX12_worst_17 : decode cX12_worst 17 = .ok (.aload_n 0, 1) := by decide +kernel
theorem dX12_worst_18 : decode cX12_worst 18 = .ok (.iconst 1, 1) := by decide +kernel
theorem dX12_worst_19 : decode cX12_worst 19 = .ok (.invokevirtual 312, 3) := by decide +kernel
theorem dX12_worst_22 : decode cX12_worst 22 = .ok (.ireturn, 1) := by decide +kernel
theorem dX12_worst_23 : decode cX12_worst 23 = .ok (.aload_n 0, 1) := by decide +kernel
theorem dX12_worst_24 : decode cX12_worst 24 = .ok (.aload_n 0, 1) := by decide +kernel
theorem dX12_worst_25 : decode cX12_worst 25 = .ok (.getfield 102, 3) := by decide +kernel
theorem dX12_worst_28 : decode cX12_worst 28 = .ok (.iconst 0, 1) := by decide +kernel
theorem dX12_worst_29 : decode cX12_worst 29 = .ok (.invokevirtual 414, 3) := by decide +kernel
theorem dX12_worst_32 : decode cX12_worst 32 = .ok (.iconst 0, 1) := by decide +kernel
theorem dX12_worst_33 : decode cX12_worst 33 = .ok (.istore_n 2, 1) := by decide +kernel
theorem dX12_worst_34 : decode cX12_worst 34 = .ok (.iload_n 2, 1) := by decide +kernel
theorem dX12_worst_35 : decode cX12_worst 35 = .ok (.bipush 6, 2) := by decide +kernel
theorem dX12_worst_37 : decode cX12_worst 37 = .ok (.if_icmp .ge 16, 3) := by decide +kernel
theorem dX12_worst_40 : decode cX12_worst 40 = .ok (.aload_n 0, 1) := by decide +kernel
theorem dX12_worst_41 : decode cX12_worst 41 = .ok (.getfield 99, 3) := by decide +kernel
theorem dX12_worst_44 : decode cX12_worst 44 = .ok (.iload_n 2, 1) := by decide +kernel
theorem dX12_worst_45 : decode cX12_worst 45 = .ok (.iconst 0, 1) := by decide +kernel
theorem dX12_worst_46 : decode cX12_worst 46 = .ok (.iastore, 1) := by decide +kernel
theorem dX12_worst_47 : decode cX12_worst 47 = .ok (.iinc 2 1, 3) := by decide +kernel
theorem dX12_worst_50 : decode cX12_worst 50 = .ok (.goto (-16), 3) := by decide +kernel
theorem dX12_worst_53 : decode cX12_worst 53 = .ok (.aload_n 0, 1) := by decide +kernel
theorem dX12_worst_54 : decode cX12_worst 54 = .ok (.iload_n 1, 1) := by decide +kernel
theorem dX12_worst_55 : decode cX12_worst 55 = .ok (.invokevirtual 426, 3) := by decide +kernel
theorem dX12_worst_58 : decode cX12_worst 58 = .ok (.iconst (-1), 1) := by decide +kernel
theorem dX12_worst_59 : decode cX12_worst 59 = .ok (.istore_n 2, 1) := by decide +kernel
theorem dX12_worst_60 : decode cX12_worst 60 = .ok (.iconst 5, 1) := by decide +kernel
theorem dX12_worst_61 : decode cX12_worst 61 = .ok (.istore_n 3, 1) := by decide +kernel
theorem dX12_worst_62 : decode cX12_worst 62 = .ok (.iload_n 3, 1) := by decide +kernel
theorem dX12_worst_63 : decode cX12_worst 63 = .ok (.ifCond .lt 40, 3) := by decide +kernel
theorem dX12_worst_66 : decode cX12_worst 66 = .ok (.aload_n 0, 1) := by decide +kernel
theorem dX12_worst_67 : decode cX12_worst 67 = .ok (.getfield 99, 3) := by decide +kernel
theorem dX12_worst_70 : decode cX12_worst 70 = .ok (.iload_n 3, 1) := by decide +kernel
theorem dX12_worst_71 : decode cX12_worst 71 = .ok (.iaload, 1) := by decide +kernel
theorem dX12_worst_72 : decode cX12_worst 72 = .ok (.ifCond .le 25, 3) := by decide +kernel
theorem dX12_worst_75 : decode cX12_worst 75 = .ok (.iload_n 2, 1) := by decide +kernel
theorem dX12_worst_76 : decode cX12_worst 76 = .ok (.iconst (-1), 1) := by decide +kernel
theorem dX12_worst_77 : decode cX12_worst 77 = .ok (.if_icmp .eq 18, 3) := by decide +kernel
theorem dX12_worst_80 : decode cX12_worst 80 = .ok (.aload_n 0, 1) := by decide +kernel
theorem dX12_worst_81 : decode cX12_worst 81 = .ok (.getfield 99, 3) := by decide +kernel
theorem dX12_worst_84 : decode cX12_worst 84 = .ok (.iload_n 3, 1) := by decide +kernel
theorem dX12_worst_85 : decode cX12_worst 85 = .ok (.iaload, 1) := by decide +kernel
theorem dX12_worst_86 : decode cX12_worst 86 = .ok (.aload_n 0, 1) := by decide +kernel
theorem dX12_worst_87 : decode cX12_worst 87 = .ok (.getfield 99, 3) := by decide +kernel
theorem dX12_worst_90 : decode cX12_worst 90 = .ok (.iload_n 2, 1) := by decide +kernel
theorem dX12_worst_91 : decode cX12_worst 91 = .ok (.iaload, 1) := by decide +kernel
theorem dX12_worst_92 : decode cX12_worst 92 = .ok (.if_icmp .lt 5, 3) := by decide +kernel
theorem dX12_worst_95 : decode cX12_worst 95 = .ok (.iload_n 3, 1) := by decide +kernel
theorem dX12_worst_96 : decode cX12_worst 96 = .ok (.istore_n 2, 1) := by decide +kernel
theorem dX12_worst_97 : decode cX12_worst 97 = .ok (.iinc 3 (-1), 3) := by decide +kernel
theorem dX12_worst_100 : decode cX12_worst 100 = .ok (.goto (-38), 3) := by decide +kernel
theorem dX12_worst_103 : decode cX12_worst 103 = .ok (.aload_n 0, 1) := by decide +kernel
theorem dX12_worst_104 : decode cX12_worst 104 = .ok (.aload_n 0, 1) := by decide +kernel
theorem dX12_worst_105 : decode cX12_worst 105 = .ok (.getfield 102, 3) := by decide +kernel
theorem dX12_worst_108 : decode cX12_worst 108 = .ok (.iconst 0, 1) := by decide +kernel
theorem dX12_worst_109 : decode cX12_worst 109 = .ok (.invokevirtual 432, 3) := by decide +kernel
theorem dX12_worst_112 : decode cX12_worst 112 = .ok (.iload_n 2, 1) := by decide +kernel
theorem dX12_worst_113 : decode cX12_worst 113 = .ok (.ireturn, 1) := by decide +kernel
theorem dX12_angers_0 : decode cX12_angers 0 = .ok (.iconst 0, 1) := by decide +kernel
theorem dX12_angers_1 : decode cX12_angers 1 = .ok (.istore_n 2, 1) := by decide +kernel
theorem dX12_angers_2 : decode cX12_angers 2 = .ok (.iconst 0, 1) := by decide +kernel
theorem dX12_angers_3 : decode cX12_angers 3 = .ok (.istore_n 3, 1) := by decide +kernel
theorem dX12_angers_4 : decode cX12_angers 4 = .ok (.iload_n 3, 1) := by decide +kernel
theorem dX12_angers_5 : decode cX12_angers 5 = .ok (.aload_n 0, 1) := by decide +kernel
theorem dX12_angers_6 : decode cX12_angers 6 = .ok (.getfield 33, 3) := by decide +kernel
theorem dX12_angers_9 : decode cX12_angers 9 = .ok (.iconst 2, 1) := by decide +kernel
theorem dX12_angers_10 : decode cX12_angers 10 = .ok (.iaload, 1) := by decide +kernel
theorem dX12_angers_11 : decode cX12_angers 11 = .ok (.if_icmp .ge 30, 3) := by decide +kernel
theorem dX12_angers_14 : decode cX12_angers 14 = .ok (.iload_n 2, 1) := by decide +kernel
theorem dX12_angers_15 : decode cX12_angers 15 = .ok (.iload_n 1, 1) := by decide +kernel
theorem dX12_angers_16 : decode cX12_angers 16 = .ok (.iload_n 3, 1) := by decide +kernel
theorem dX12_angers_17 : decode cX12_angers 17 = .ok (.invokestatic 284, 3) := by decide +kernel
theorem dX12_angers_20 : decode cX12_angers 20 = .ok (.ifCond .eq 12, 3) := by decide +kernel
theorem dX12_angers_23 : decode cX12_angers 23 = .ok (.aload_n 0, 1) := by decide +kernel
theorem dX12_angers_24 : decode cX12_angers 24 = .ok (.getfield 70, 3) := by decide +kernel
theorem dX12_angers_27 : decode cX12_angers 27 = .ok (.iload_n 3, 1) := by decide +kernel
theorem dX12_angers_28 : decode cX12_angers 28 = .ok (.iaload, 1) := by decide +kernel
theorem dX12_angers_29 : decode cX12_angers 29 = .ok (.goto 4, 3) := by decide +kernel
theorem dX12_angers_32 : decode cX12_angers 32 = .ok (.iconst 0, 1) := by decide +kernel
theorem dX12_angers_33 : decode cX12_angers 33 = .ok (.iadd, 1) := by decide +kernel
theorem dX12_angers_34 : decode cX12_angers 34 = .ok (.istore_n 2, 1) := by decide +kernel
theorem dX12_angers_35 : decode cX12_angers 35 = .ok (.iinc 3 1, 3) := by decide +kernel
theorem dX12_angers_38 : decode cX12_angers 38 = .ok (.goto (-34), 3) := by decide +kernel
theorem dX12_angers_41 : decode cX12_angers 41 = .ok (.iload_n 2, 1) := by decide +kernel
theorem dX12_angers_42 : decode cX12_angers 42 = .ok (.ireturn, 1) := by decide +kernel
theorem dX12_tellMost_0 : decode cX12_tellMost 0 = .ok (.iconst 0, 1) := by decide +kernel
theorem dX12_tellMost_1 : decode cX12_tellMost 1 = .ok (.istore_n 2, 1) := by decide +kernel
theorem dX12_tellMost_2 : decode cX12_tellMost 2 = .ok (.iload_n 2, 1) := by decide +kernel
theorem dX12_tellMost_3 : decode cX12_tellMost 3 = .ok (.sipush 1024, 3) := by decide +kernel
theorem dX12_tellMost_6 : decode cX12_tellMost 6 = .ok (.if_icmp .ge 26, 3) := by decide +kernel
theorem dX12_tellMost_9 : decode cX12_tellMost 9 = .ok (.aload_n 0, 1) := by decide +kernel
theorem dX12_tellMost_10 : decode cX12_tellMost 10 = .ok (.getfield 108, 3) := by decide +kernel
theorem dX12_tellMost_13 : decode cX12_tellMost 13 = .ok (.aload_n 0, 1) := by decide +kernel
theorem dX12_tellMost_14 : decode cX12_tellMost 14 = .ok (.getfield 33, 3) := by decide +kernel
theorem dX12_tellMost_17 : decode cX12_tellMost 17 = .ok (.iconst 1, 1) := by decide +kernel
theorem dX12_tellMost_18 : decode cX12_tellMost 18 = .ok (.iaload, 1) := by decide +kernel
theorem dX12_tellMost_19 : decode cX12_tellMost 19 = .ok (.bipush 10, 2) := by decide +kernel
theorem dX12_tellMost_21 : decode cX12_tellMost 21 = .ok (.ishl, 1) := by decide +kernel
theorem dX12_tellMost_22 : decode cX12_tellMost 22 = .ok (.iload_n 2, 1) := by decide +kernel
theorem dX12_tellMost_23 : decode cX12_tellMost 23 = .ok (.iadd, 1) := by decide +kernel
theorem dX12_tellMost_24 : decode cX12_tellMost 24 = .ok (.iconst 0, 1) := by decide +kernel
theorem dX12_tellMost_25 : decode cX12_tellMost 25 = .ok (.iastore, 1) := by decide +kernel
theorem dX12_tellMost_26 : decode cX12_tellMost 26 = .ok (.iinc 2 1, 3) := by decide +kernel
theorem dX12_tellMost_29 : decode cX12_tellMost 29 = .ok (.goto (-27), 3) := by decide +kernel
theorem dX12_tellMost_32 : decode cX12_tellMost 32 = .ok (.aload_n 0, 1) := by decide +kernel
theorem dX12_tellMost_33 : decode cX12_tellMost 33 = .ok (.getfield 33, 3) := by decide +kernel
theorem dX12_tellMost_36 : decode cX12_tellMost 36 = .ok (.iconst 1, 1) := by decide +kernel
theorem dX12_tellMost_37 : decode cX12_tellMost 37 = .ok (.iaload, 1) := by decide +kernel
theorem dX12_tellMost_38 : decode cX12_tellMost 38 = .ok (.iconst 1, 1) := by decide +kernel
theorem dX12_tellMost_39 : decode cX12_tellMost 39 = .ok (.isub, 1) := by decide +kernel
theorem dX12_tellMost_40 : decode cX12_tellMost 40 = .ok (.istore_n 2, 1) := by decide +kernel
theorem dX12_tellMost_41 : decode cX12_tellMost 41 = .ok (.iload_n 2, 1) := by decide +kernel
theorem dX12_tellMost_42 : decode cX12_tellMost 42 = .ok (.ifCond .lt 136, 3) := by decide +kernel
theorem dX12_tellMost_45 : decode cX12_tellMost 45 = .ok (.aload_n 0, 1) := by decide +kernel
theorem dX12_tellMost_46 : decode cX12_tellMost 46 = .ok (.iload_n 2, 1) := by decide +kernel
theorem dX12_tellMost_47 : decode cX12_tellMost 47 = .ok (.invokevirtual 405, 3) := by decide +kernel
theorem dX12_tellMost_50 : decode cX12_tellMost 50 = .ok (.istore_n 3, 1) := by decide +kernel
theorem dX12_tellMost_51 : decode cX12_tellMost 51 = .ok (.iconst 0, 1) := by decide +kernel
theorem dX12_tellMost_52 : decode cX12_tellMost 52 = .ok (.istore 4, 2) := by decide +kernel
theorem dX12_tellMost_54 : decode cX12_tellMost 54 = .ok (.iload 4, 2) := by decide +kernel
theorem dX12_tellMost_56 : decode cX12_tellMost 56 = .ok (.iload_n 1, 1) := by decide +kernel
theorem dX12_tellMost_57 : decode cX12_tellMost 57 = .ok (.if_icmp .gt 115, 3) := by decide +kernel
theorem dX12_tellMost_60 : decode cX12_tellMost 60 = .ok (.iload 4, 2) := by decide +kernel
theorem dX12_tellMost_62 : decode cX12_tellMost 62 = .ok (.iload_n 1, 1) := by decide +kernel
theorem dX12_tellMost_63 : decode cX12_tellMost 63 = .ok (.iconst (-1), 1) := by decide +kernel
theorem dX12_tellMost_64 : decode cX12_tellMost 64 = .ok (.ixor, 1) := by decide +kernel
theorem dX12_tellMost_65 : decode cX12_tellMost 65 = .ok (.iand, 1) := by decide +kernel
theorem dX12_tellMost_66 : decode cX12_tellMost 66 = .ok (.ifCond .eq 6, 3) := by decide +kernel
theorem dX12_tellMost_69 : decode cX12_tellMost 69 = .ok (.goto 97, 3) := by decide +kernel
theorem dX12_tellMost_72 : decode cX12_tellMost 72 = .ok (.aload_n 0, 1) := by decide +kernel
theorem dX12_tellMost_73 : decode cX12_tellMost 73 = .ok (.getfield 108, 3) := by decide +kernel
theorem dX12_tellMost_76 : decode cX12_tellMost 76 = .ok (.iload_n 2, 1) := by decide +kernel
theorem dX12_tellMost_77 : decode cX12_tellMost 77 = .ok (.iconst 1, 1) := by decide +kernel
theorem dX12_tellMost_78 : decode cX12_tellMost 78 = .ok (.iadd, 1) := by decide +kernel
theorem dX12_tellMost_79 : decode cX12_tellMost 79 = .ok (.bipush 10, 2) := by decide +kernel
theorem dX12_tellMost_81 : decode cX12_tellMost 81 = .ok (.ishl, 1) := by decide +kernel
theorem dX12_tellMost_82 : decode cX12_tellMost 82 = .ok (.iload 4, 2) := by decide +kernel
theorem dX12_tellMost_84 : decode cX12_tellMost 84 = .ok (.iadd, 1) := by decide +kernel
theorem dX12_tellMost_85 : decode cX12_tellMost 85 = .ok (.iaload, 1) := by decide +kernel
theorem dX12_tellMost_86 : decode cX12_tellMost 86 = .ok (.istore 5, 2) := by decide +kernel
theorem dX12_tellMost_88 : decode cX12_tellMost 88 = .ok (.iload 4, 2) := by decide +kernel
theorem dX12_tellMost_90 : decode cX12_tellMost 90 = .ok (.istore 6, 2) := by decide +kernel
theorem dX12_tellMost_92 : decode cX12_tellMost 92 = .ok (.iload 6, 2) := by decide +kernel
theorem dX12_tellMost_94 : decode cX12_tellMost 94 = .ok (.ifCond .le 58, 3) := by decide +kernel
theorem dX12_tellMost_97 : decode cX12_tellMost 97 = .ok (.aload_n 0, 1) := by decide +kernel
theorem dX12_tellMost_98 : decode cX12_tellMost 98 = .ok (.iload 6, 2) := by decide +kernel
theorem dX12_tellMost_100 : decode cX12_tellMost 100 = .ok (.invokevirtual 345, 3) := by decide +kernel
theorem dX12_tellMost_103 : decode cX12_tellMost 103 = .ok (.iload_n 3, 1) := by decide +kernel
theorem dX12_tellMost_104 : decode cX12_tellMost 104 = .ok (.if_icmp .gt 36, 3) := by decide +kernel
theorem dX12_tellMost_107 : decode cX12_tellMost 107 = .ok (.iload 5, 2) := by decide +kernel
theorem dX12_tellMost_109 : decode cX12_tellMost 109 = .ok (.aload_n 0, 1) := by decide +kernel
theorem dX12_tellMost_110 : decode cX12_tellMost 110 = .ok (.iload 6, 2) := by decide +kernel
theorem dX12_tellMost_112 : decode cX12_tellMost 112 = .ok (.invokevirtual 440, 3) := by decide +kernel
theorem dX12_tellMost_115 : decode cX12_tellMost 115 = .ok (.aload_n 0, 1) := by decide +kernel
theorem dX12_tellMost_116 : decode cX12_tellMost 116 = .ok (.getfield 108, 3) := by decide +kernel
theorem dX12_tellMost_119 : decode cX12_tellMost 119 = .ok (.iload_n 2, 1) := by decide +kernel
theorem dX12_tellMost_120 : decode cX12_tellMost 120 = .ok (.iconst 1, 1) := by decide +kernel
theorem dX12_tellMost_121 : decode cX12_tellMost 121 = .ok (.iadd, 1) := by decide +kernel
theorem dX12_tellMost_122 : decode cX12_tellMost 122 = .ok (.bipush 10, 2) := by decide +kernel
theorem dX12_tellMost_124 : decode cX12_tellMost 124 = .ok (.ishl, 1) := by decide +kernel
theorem dX12_tellMost_125 : decode cX12_tellMost 125 = .ok (.iload 4, 2) := by decide +kernel
theorem dX12_tellMost_127 : decode cX12_tellMost 127 = .ok (.iload 6, 2) := by decide +kernel
theorem dX12_tellMost_129 : decode cX12_tellMost 129 = .ok (.iconst (-1), 1) := by decide +kernel
theorem dX12_tellMost_130 : decode cX12_tellMost 130 = .ok (.ixor, 1) := by decide +kernel
theorem dX12_tellMost_131 : decode cX12_tellMost 131 = .ok (.iand, 1) := by decide +kernel
theorem dX12_tellMost_132 : decode cX12_tellMost 132 = .ok (.iadd, 1) := by decide +kernel
theorem dX12_tellMost_133 : decode cX12_tellMost 133 = .ok (.iaload, 1) := by decide +kernel
theorem dX12_tellMost_134 : decode cX12_tellMost 134 = .ok (.iadd, 1) := by decide +kernel
theorem dX12_tellMost_135 : decode cX12_tellMost 135 = .ok (.invokestatic 371, 3) := by decide +kernel
theorem dX12_tellMost_138 : decode cX12_tellMost 138 = .ok (.istore 5, 2) := by decide +kernel
theorem dX12_tellMost_140 : decode cX12_tellMost 140 = .ok (.iload 6, 2) := by decide +kernel
theorem dX12_tellMost_142 : decode cX12_tellMost 142 = .ok (.iconst 1, 1) := by decide +kernel
theorem dX12_tellMost_143 : decode cX12_tellMost 143 = .ok (.isub, 1) := by decide +kernel
theorem dX12_tellMost_144 : decode cX12_tellMost 144 = .ok (.iload 4, 2) := by decide +kernel
theorem dX12_tellMost_146 : decode cX12_tellMost 146 = .ok (.iand, 1) := by decide +kernel
theorem dX12_tellMost_147 : decode cX12_tellMost 147 = .ok (.istore 6, 2) := by decide +kernel
theorem dX12_tellMost_149 : decode cX12_tellMost 149 = .ok (.goto (-57), 3) := by decide +kernel
theorem dX12_tellMost_152 : decode cX12_tellMost 152 = .ok (.aload_n 0, 1) := by decide +kernel
theorem dX12_tellMost_153 : decode cX12_tellMost 153 = .ok (.getfield 108, 3) := by decide +kernel
theorem dX12_tellMost_156 : decode cX12_tellMost 156 = .ok (.iload_n 2, 1) := by decide +kernel
theorem dX12_tellMost_157 : decode cX12_tellMost 157 = .ok (.bipush 10, 2) := by decide +kernel
theorem dX12_tellMost_159 : decode cX12_tellMost 159 = .ok (.ishl, 1) := by decide +kernel
theorem dX12_tellMost_160 : decode cX12_tellMost 160 = .ok (.iload 4, 2) := by decide +kernel
theorem dX12_tellMost_162 : decode cX12_tellMost 162 = .ok (.iadd, 1) := by decide +kernel
theorem dX12_tellMost_163 : decode cX12_tellMost 163 = .ok (.iload 5, 2) := by decide +kernel
theorem dX12_tellMost_165 : decode cX12_tellMost 165 = .ok (.iastore, 1) := by decide +kernel
theorem dX12_tellMost_166 : decode cX12_tellMost 166 = .ok (.iinc 4 1, 3) := by decide +kernel
theorem dX12_tellMost_169 : decode cX12_tellMost 169 = .ok (.goto (-115), 3) := by decide +kernel
theorem dX12_tellMost_172 : decode cX12_tellMost 172 = .ok (.iinc 2 (-1), 3) := by decide +kernel
theorem dX12_tellMost_175 : decode cX12_tellMost 175 = .ok (.goto (-134), 3) := by decide +kernel
theorem dX12_tellMost_178 : decode cX12_tellMost 178 = .ok (.return_, 1) := by decide +kernel
theorem dX12_goingTo_0 : decode cX12_goingTo 0 = .ok (.iconst 0, 1) := by decide +kernel
theorem dX12_goingTo_1 : decode cX12_goingTo 1 = .ok (.istore_n 3, 1) := by decide +kernel
theorem dX12_goingTo_2 : decode cX12_goingTo 2 = .ok (.iload_n 3, 1) := by decide +kernel
theorem dX12_goingTo_3 : decode cX12_goingTo 3 = .ok (.iload_n 2, 1) := by decide +kernel
theorem dX12_goingTo_4 : decode cX12_goingTo 4 = .ok (.if_icmp .ge 69, 3) := by decide +kernel
theorem dX12_goingTo_7 : decode cX12_goingTo 7 = .ok (.iload_n 3, 1) := by decide +kernel
theorem dX12_goingTo_8 : decode cX12_goingTo 8 = .ok (.iload_n 2, 1) := by decide +kernel
theorem dX12_goingTo_9 : decode cX12_goingTo 9 = .ok (.iconst (-1), 1) := by decide +kernel
theorem dX12_goingTo_10 : decode cX12_goingTo 10 = .ok (.ixor, 1) := by decide +kernel
theorem dX12_goingTo_11 : decode cX12_goingTo 11 = .ok (.iand, 1) := by decide +kernel
theorem dX12_goingTo_12 : decode cX12_goingTo 12 = .ok (.ifCond .ne 55, 3) := by decide +kernel
theorem dX12_goingTo_15 : decode cX12_goingTo 15 = .ok (.aload_n 0, 1) := by decide +kernel
theorem dX12_goingTo_16 : decode cX12_goingTo 16 = .ok (.iload_n 3, 1) := by decide +kernel
theorem dX12_goingTo_17 : decode cX12_goingTo 17 = .ok (.invokevirtual 345, 3) := by decide +kernel
theorem dX12_goingTo_20 : decode cX12_goingTo 20 = .ok (.aload_n 0, 1) := by decide +kernel
theorem dX12_goingTo_21 : decode cX12_goingTo 21 = .ok (.iload_n 1, 1) := by decide +kernel
theorem dX12_goingTo_22 : decode cX12_goingTo 22 = .ok (.invokevirtual 405, 3) := by decide +kernel
theorem dX12_goingTo_25 : decode cX12_goingTo 25 = .ok (.if_icmp .gt 42, 3) := by decide +kernel
theorem dX12_goingTo_28 : decode cX12_goingTo 28 = .ok (.aload_n 0, 1) := by decide +kernel
theorem dX12_goingTo_29 : decode cX12_goingTo 29 = .ok (.iload_n 3, 1) := by decide +kernel
theorem dX12_goingTo_30 : decode cX12_goingTo 30 = .ok (.invokevirtual 440, 3) := by decide +kernel
theorem dX12_goingTo_33 : decode cX12_goingTo 33 = .ok (.aload_n 0, 1) := by decide +kernel
theorem dX12_goingTo_34 : decode cX12_goingTo 34 = .ok (.getfield 108, 3) := by decide +kernel
theorem dX12_goingTo_37 : decode cX12_goingTo 37 = .ok (.iload_n 1, 1) := by decide +kernel
theorem dX12_goingTo_38 : decode cX12_goingTo 38 = .ok (.iconst 1, 1) := by decide +kernel
theorem dX12_goingTo_39 : decode cX12_goingTo 39 = .ok (.iadd, 1) := by decide +kernel
theorem dX12_goingTo_40 : decode cX12_goingTo 40 = .ok (.bipush 10, 2) := by decide +kernel
theorem dX12_goingTo_42 : decode cX12_goingTo 42 = .ok (.ishl, 1) := by decide +kernel
theorem dX12_goingTo_43 : decode cX12_goingTo 43 = .ok (.iload_n 2, 1) := by decide +kernel
theorem dX12_goingTo_44 : decode cX12_goingTo 44 = .ok (.iload_n 3, 1) := by decide +kernel
theorem dX12_goingTo_45 : decode cX12_goingTo 45 = .ok (.iconst (-1), 1) := by decide +kernel
theorem dX12_goingTo_46 : decode cX12_goingTo 46 = .ok (.ixor, 1) := by decide +kernel
theorem dX12_goingTo_47 : decode cX12_goingTo 47 = .ok (.iand, 1) := by decide +kernel
theorem dX12_goingTo_48 : decode cX12_goingTo 48 = .ok (.iadd, 1) := by decide +kernel
theorem dX12_goingTo_49 : decode cX12_goingTo 49 = .ok (.iaload, 1) := by decide +kernel
theorem dX12_goingTo_50 : decode cX12_goingTo 50 = .ok (.iadd, 1) := by decide +kernel
theorem dX12_goingTo_51 : decode cX12_goingTo 51 = .ok (.aload_n 0, 1) := by decide +kernel
theorem dX12_goingTo_52 : decode cX12_goingTo 52 = .ok (.getfield 108, 3) := by decide +kernel
theorem dX12_goingTo_55 : decode cX12_goingTo 55 = .ok (.iload_n 1, 1) := by decide +kernel
theorem dX12_goingTo_56 : decode cX12_goingTo 56 = .ok (.bipush 10, 2) := by decide +kernel
theorem dX12_goingTo_58 : decode cX12_goingTo 58 = .ok (.ishl, 1) := by decide +kernel
theorem dX12_goingTo_59 : decode cX12_goingTo 59 = .ok (.iload_n 2, 1) := by decide +kernel
theorem dX12_goingTo_60 : decode cX12_goingTo 60 = .ok (.iadd, 1) := by decide +kernel
theorem dX12_goingTo_61 : decode cX12_goingTo 61 = .ok (.iaload, 1) := by decide +kernel
theorem dX12_goingTo_62 : decode cX12_goingTo 62 = .ok (.if_icmp .ne 5, 3) := by decide +kernel
theorem dX12_goingTo_65 : decode cX12_goingTo 65 = .ok (.iload_n 3, 1) := by decide +kernel
theorem dX12_goingTo_66 : decode cX12_goingTo 66 = .ok (.ireturn, 1) := by decide +kernel
theorem dX12_goingTo_67 : decode cX12_goingTo 67 = .ok (.iinc 3 1, 3) := by decide +kernel
theorem dX12_goingTo_70 : decode cX12_goingTo 70 = .ok (.goto (-68), 3) := by decide +kernel
theorem dX12_goingTo_73 : decode cX12_goingTo 73 = .ok (.iload_n 2, 1) := by decide +kernel
theorem dX12_goingTo_74 : decode cX12_goingTo 74 = .ok (.ireturn, 1) := by decide +kernel
theorem dX12_takeIn_0 : decode cX12_takeIn 0 = .ok (.aload_n 0, 1) := by decide +kernel
theorem dX12_takeIn_1 : decode cX12_takeIn 1 = .ok (.iconst 0, 1) := by decide +kernel
theorem dX12_takeIn_2 : decode cX12_takeIn 2 = .ok (.putfield 158, 3) := by decide +kernel
theorem dX12_takeIn_5 : decode cX12_takeIn 5 = .ok (.iload_n 1, 1) := by decide +kernel
theorem dX12_takeIn_6 : decode cX12_takeIn 6 = .ok (.i2l, 1) := by decide +kernel
theorem dX12_takeIn_7 : decode cX12_takeIn 7 = .ok (.ldc2_w 443, 3) := by decide +kernel
theorem dX12_takeIn_10 : decode cX12_takeIn 10 = .ok (.aload_n 0, 1) := by decide +kernel
theorem dX12_takeIn_11 : decode cX12_takeIn 11 = .ok (.getfield 33, 3) := by decide +kernel
theorem dX12_takeIn_14 : decode cX12_takeIn 14 = .ok (.iconst 2, 1) := by decide +kernel
theorem dX12_takeIn_15 : decode cX12_takeIn 15 = .ok (.iaload, 1) := by decide +kernel
theorem dX12_takeIn_16 : decode cX12_takeIn 16 = .ok (.iconst 1, 1) := by decide +kernel
theorem dX12_takeIn_17 : decode cX12_takeIn 17 = .ok (.isub, 1) := by decide +kernel
theorem dX12_takeIn_18 : decode cX12_takeIn 18 = .ok (.i2l, 1) := by decide +kernel
theorem dX12_takeIn_19 : decode cX12_takeIn 19 = .ok (.invokestatic 161, 3) := by decide +kernel
theorem dX12_takeIn_22 : decode cX12_takeIn 22 = .ok (.ifCond .ne 9, 3) := by decide +kernel
theorem dX12_takeIn_25 : decode cX12_takeIn 25 = .ok (.aload_n 0, 1) := by decide +kernel
theorem dX12_takeIn_26 : decode cX12_takeIn 26 = .ok (.iconst 1, 1) := by decide +kernel
theorem dX12_takeIn_27 : decode cX12_takeIn 27 = .ok (.invokevirtual 312, 3) := by decide +kernel
theorem dX12_takeIn_30 : decode cX12_takeIn 30 = .ok (.ireturn, 1) := by decide +kernel
theorem dX12_takeIn_31 : decode cX12_takeIn 31 = .ok (.aload_n 0, 1) := by decide +kernel
theorem dX12_takeIn_32 : decode cX12_takeIn 32 = .ok (.iconst 0, 1) := by decide +kernel
theorem dX12_takeIn_33 : decode cX12_takeIn 33 = .ok (.invokevirtual 348, 3) := by decide +kernel
theorem dX12_takeIn_36 : decode cX12_takeIn 36 = .ok (.istore_n 2, 1) := by decide +kernel
theorem dX12_takeIn_37 : decode cX12_takeIn 37 = .ok (.aload_n 0, 1) := by decide +kernel
theorem dX12_takeIn_38 : decode cX12_takeIn 38 = .ok (.iload_n 2, 1) := by decide +kernel
theorem dX12_takeIn_39 : decode cX12_takeIn 39 = .ok (.invokevirtual 445, 3) := by decide +kernel
theorem dX12_takeIn_42 : decode cX12_takeIn 42 = .ok (.iload_n 1, 1) := by decide +kernel
theorem dX12_takeIn_43 : decode cX12_takeIn 43 = .ok (.iconst (-1), 1) := by decide +kernel
theorem dX12_takeIn_44 : decode cX12_takeIn 44 = .ok (.if_icmp .ne 10, 3) := by decide +kernel
theorem dX12_takeIn_47 : decode cX12_takeIn 47 = .ok (.aload_n 0, 1) := by decide +kernel
theorem dX12_takeIn_48 : decode cX12_takeIn 48 = .ok (.getfield 108, 3) := by decide +kernel
theorem dX12_takeIn_51 : decode cX12_takeIn 51 = .ok (.iload_n 2, 1) := by decide +kernel
theorem dX12_takeIn_52 : decode cX12_takeIn 52 = .ok (.iaload, 1) := by decide +kernel
theorem dX12_takeIn_53 : decode cX12_takeIn 53 = .ok (.ireturn, 1) := by decide +kernel
theorem dX12_takeIn_54 : decode cX12_takeIn 54 = .ok (.iload_n 2, 1) := by decide +kernel
theorem dX12_takeIn_55 : decode cX12_takeIn 55 = .ok (.istore_n 3, 1) := by decide +kernel
theorem dX12_takeIn_56 : decode cX12_takeIn 56 = .ok (.iconst 0, 1) := by decide +kernel
theorem dX12_takeIn_57 : decode cX12_takeIn 57 = .ok (.istore 4, 2) := by decide +kernel
theorem dX12_takeIn_59 : decode cX12_takeIn 59 = .ok (.iload 4, 2) := by decide +kernel
theorem dX12_takeIn_61 : decode cX12_takeIn 61 = .ok (.aload_n 0, 1) := by decide +kernel
theorem dX12_takeIn_62 : decode cX12_takeIn 62 = .ok (.getfield 33, 3) := by decide +kernel
theorem dX12_takeIn_65 : decode cX12_takeIn 65 = .ok (.iconst 1, 1) := by decide +kernel
theorem dX12_takeIn_66 : decode cX12_takeIn 66 = .ok (.iaload, 1) := by decide +kernel
theorem dX12_takeIn_67 : decode cX12_takeIn 67 = .ok (.if_icmp .ge 37, 3) := by decide +kernel
theorem dX12_takeIn_70 : decode cX12_takeIn 70 = .ok (.aload_n 0, 1) := by decide +kernel
theorem dX12_takeIn_71 : decode cX12_takeIn 71 = .ok (.iload 4, 2) := by decide +kernel
theorem dX12_takeIn_73 : decode cX12_takeIn 73 = .ok (.iload_n 3, 1) := by decide +kernel
theorem dX12_takeIn_74 : decode cX12_takeIn 74 = .ok (.invokevirtual 448, 3) := by decide +kernel
theorem dX12_takeIn_77 : decode cX12_takeIn 77 = .ok (.istore 5, 2) := by decide +kernel
theorem dX12_takeIn_79 : decode cX12_takeIn 79 = .ok (.iload 5, 2) := by decide +kernel
theorem dX12_takeIn_81 : decode cX12_takeIn 81 = .ok (.iload_n 1, 1) := by decide +kernel
theorem dX12_takeIn_82 : decode cX12_takeIn 82 = .ok (.invokestatic 284, 3) := by decide +kernel
theorem dX12_takeIn_85 : decode cX12_takeIn 85 = .ok (.ifCond .eq 6, 3) := by decide +kernel
theorem dX12_takeIn_88 : decode cX12_takeIn 88 = .ok (.iload 4, 2) := by decide +kernel
theorem dX12_takeIn_90 : decode cX12_takeIn 90 = .ok (.ireturn, 1) := by decide +kernel
theorem dX12_takeIn_91 : decode cX12_takeIn 91 = .ok (.iload_n 3, 1) := by decide +kernel
theorem dX12_takeIn_92 : decode cX12_takeIn 92 = .ok (.iload 5, 2) := by decide +kernel
theorem dX12_takeIn_94 : decode cX12_takeIn 94 = .ok (.iconst (-1), 1) := by decide +kernel
theorem dX12_takeIn_95 : decode cX12_takeIn 95 = .ok (.ixor, 1) := by decide +kernel
theorem dX12_takeIn_96 : decode cX12_takeIn 96 = .ok (.iand, 1) := by decide +kernel
theorem dX12_takeIn_97 : decode cX12_takeIn 97 = .ok (.istore_n 3, 1) := by decide +kernel
theorem dX12_takeIn_98 : decode cX12_takeIn 98 = .ok (.iinc 4 1, 3) := by decide +kernel
theorem dX12_takeIn_101 : decode cX12_takeIn 101 = .ok (.goto (-42), 3) := by decide +kernel
theorem dX12_takeIn_104 : decode cX12_takeIn 104 = .ok (.iconst (-1), 1) := by decide +kernel
theorem dX12_takeIn_105 : decode cX12_takeIn 105 = .ok (.ireturn, 1) := by decide +kernel
theorem dX12_throats_0 : decode cX12_throats 0 = .ok (.aload_n 0, 1) := by decide +kernel
theorem dX12_throats_1 : decode cX12_throats 1 = .ok (.iconst 0, 1) := by decide +kernel
theorem dX12_throats_2 : decode cX12_throats 2 = .ok (.putfield 158, 3) := by decide +kernel
theorem dX12_throats_5 : decode cX12_throats 5 = .ok (.aload_n 0, 1) := by decide +kernel
theorem dX12_throats_6 : decode cX12_throats 6 = .ok (.iconst 0, 1) := by decide +kernel
theorem dX12_throats_7 : decode cX12_throats 7 = .ok (.invokevirtual 348, 3) := by decide +kernel
theorem dX12_throats_10 : decode cX12_throats 10 = .ok (.istore_n 1, 1) := by decide +kernel
theorem dX12_throats_11 : decode cX12_throats 11 = .ok (.iconst (-1), 1) := by decide +kernel
theorem dX12_throats_12 : decode cX12_throats 12 = .ok (.istore_n 2, 1) := by decide +kernel
theorem dX12_throats_13 : decode cX12_throats 13 = .ok (.iconst 0, 1) := by decide +kernel
theorem dX12_throats_14 : decode cX12_throats 14 = .ok (.istore_n 3, 1) := by decide +kernel
theorem dX12_throats_15 : decode cX12_throats 15 = .ok (.iload_n 3, 1) := by decide +kernel
theorem dX12_throats_16 : decode cX12_throats 16 = .ok (.iconst 1, 1) := by decide +kernel
theorem dX12_throats_17 : decode cX12_throats 17 = .ok (.aload_n 0, 1) := by decide +kernel
theorem dX12_throats_18 : decode cX12_throats 18 = .ok (.getfield 33, 3) := by decide +kernel
theorem dX12_throats_21 : decode cX12_throats 21 = .ok (.iconst 1, 1) := by decide +kernel
theorem dX12_throats_22 : decode cX12_throats 22 = .ok (.iaload, 1) := by decide +kernel
theorem dX12_throats_23 : decode cX12_throats 23 = .ok (.ishl, 1) := by decide +kernel
theorem dX12_throats_24 : decode cX12_throats 24 = .ok (.if_icmp .ge 231, 3) := by decide +kernel
theorem dX12_throats_27 : decode cX12_throats 27 = .ok (.iconst 0, 1) := by decide +kernel
theorem dX12_throats_28 : decode cX12_throats 28 = .ok (.istore 4, 2) := by decide +kernel
theorem dX12_throats_30 : decode cX12_throats 30 = .ok (.iload_n 3, 1) := by decide +kernel
theorem dX12_throats_31 : decode cX12_throats 31 = .ok (.ifCond .le 18, 3) := by decide +kernel
theorem dX12_throats_34 : decode cX12_throats 34 = .ok (.iload_n 3, 1) := by decide +kernel
theorem dX12_throats_35 : decode cX12_throats 35 = .ok (.iload 4, 2) := by decide +kernel
theorem dX12_throats_37 : decode cX12_throats 37 = .ok (.invokestatic 284, 3) := by decide +kernel
theorem dX12_throats_40 : decode cX12_throats 40 = .ok (.ifCond .ne 9, 3) := by decide +kernel
theorem dX12_throats_43 : decode cX12_throats 43 = .ok (.iinc 4 1, 3) := by decide +kernel
theorem dX12_throats_46 : decode cX12_throats 46 = .ok (.goto (-16), 3) := by decide +kernel
theorem dX12_throats_49 : decode cX12_throats 49 = .ok (.iload_n 3, 1) := by decide +kernel
theorem dX12_throats_50 : decode cX12_throats 50 = .ok (.iconst 1, 1) := by decide +kernel
theorem dX12_throats_51 : decode cX12_throats 51 = .ok (.iload 4, 2) := by decide +kernel
theorem dX12_throats_53 : decode cX12_throats 53 = .ok (.ishl, 1) := by decide +kernel
theorem dX12_throats_54 : decode cX12_throats 54 = .ok (.iconst (-1), 1) := by decide +kernel
theorem dX12_throats_55 : decode cX12_throats 55 = .ok (.ixor, 1) := by decide +kernel
theorem dX12_throats_56 : decode cX12_throats 56 = .ok (.iand, 1) := by decide +kernel
theorem dX12_throats_57 : decode cX12_throats 57 = .ok (.istore 5, 2) := by decide +kernel
theorem dX12_throats_59 : decode cX12_throats 59 = .ok (.iconst 0, 1) := by decide +kernel
theorem dX12_throats_60 : decode cX12_throats 60 = .ok (.istore 6, 2) := by decide +kernel
theorem dX12_throats_62 : decode cX12_throats 62 = .ok (.iload 6, 2) := by decide +kernel
theorem dX12_throats_64 : decode cX12_throats 64 = .ok (.iload_n 1, 1) := by decide +kernel
theorem dX12_throats_65 : decode cX12_throats 65 = .ok (.if_icmp .gt 152, 3) := by decide +kernel
theorem dX12_throats_68 : decode cX12_throats 68 = .ok (.iload 6, 2) := by decide +kernel
theorem dX12_throats_70 : decode cX12_throats 70 = .ok (.iload_n 1, 1) := by decide +kernel
theorem dX12_throats_71 : decode cX12_throats 71 = .ok (.iconst (-1), 1) := by decide +kernel
theorem dX12_throats_72 : decode cX12_throats 72 = .ok (.ixor, 1) := by decide +kernel
theorem dX12_throats_73 : decode cX12_throats 73 = .ok (.iand, 1) := by decide +kernel
theorem dX12_throats_74 : decode cX12_throats 74 = .ok (.ifCond .eq 6, 3) := by decide +kernel
theorem dX12_throats_77 : decode cX12_throats 77 = .ok (.goto 134, 3) := by decide +kernel
theorem dX12_throats_80 : decode cX12_throats 80 = .ok (.iload 6, 2) := by decide +kernel
theorem dX12_throats_82 : decode cX12_throats 82 = .ok (.ifCond .ne 7, 3) := by decide +kernel
theorem dX12_throats_85 : decode cX12_throats 85 = .ok (.iconst 1, 1) := by decide +kernel
theorem dX12_throats_86 : decode cX12_throats 86 = .ok (.goto 4, 3) := by decide +kernel
theorem dX12_throats_89 : decode cX12_throats 89 = .ok (.iconst 0, 1) := by decide +kernel
theorem dX12_throats_90 : decode cX12_throats 90 = .ok (.istore 7, 2) := by decide +kernel
theorem dX12_throats_92 : decode cX12_throats 92 = .ok (.iload 6, 2) := by decide +kernel
theorem dX12_throats_94 : decode cX12_throats 94 = .ok (.istore 8, 2) := by decide +kernel
theorem dX12_throats_96 : decode cX12_throats 96 = .ok (.iload 8, 2) := by decide +kernel
theorem dX12_throats_98 : decode cX12_throats 98 = .ok (.ifCond .le 67, 3) := by decide +kernel
theorem dX12_throats_101 : decode cX12_throats 101 = .ok (.iload_n 3, 1) := by decide +kernel
theorem dX12_throats_102 : decode cX12_throats 102 = .ok (.ifCond .le 63, 3) := by decide +kernel
theorem dX12_throats_105 : decode cX12_throats 105 = .ok (.iload 7, 2) := by decide +kernel
theorem dX12_throats_107 : decode cX12_throats 107 = .ok (.ifCond .ne 58, 3) := by decide +kernel
theorem dX12_throats_110 : decode cX12_throats 110 = .ok (.aload_n 0, 1) := by decide +kernel
theorem dX12_throats_111 : decode cX12_throats 111 = .ok (.iload 8, 2) := by decide +kernel
theorem dX12_throats_113 : decode cX12_throats 113 = .ok (.invokevirtual 345, 3) := by decide +kernel
theorem dX12_throats_116 : decode cX12_throats 116 = .ok (.aload_n 0, 1) := by decide +kernel
theorem dX12_throats_117 : decode cX12_throats 117 = .ok (.iload 4, 2) := by decide +kernel
theorem dX12_throats_119 : decode cX12_throats 119 = .ok (.invokevirtual 405, 3) := by decide +kernel
theorem dX12_throats_122 : decode cX12_throats 122 = .ok (.if_icmp .gt 28, 3) := by decide +kernel
theorem dX12_throats_125 : decode cX12_throats 125 = .ok (.aload_n 0, 1) := by decide +kernel
theorem dX12_throats_126 : decode cX12_throats 126 = .ok (.getfield 112, 3) := by decide +kernel
theorem dX12_throats_129 : decode cX12_throats 129 = .ok (.iload 5, 2) := by decide +kernel
theorem dX12_throats_131 : decode cX12_throats 131 = .ok (.bipush 10, 2) := by decide +kernel
theorem dX12_throats_133 : decode cX12_throats 133 = .ok (.ishl, 1) := by decide +kernel
theorem dX12_throats_134 : decode cX12_throats 134 = .ok (.iload 6, 2) := by decide +kernel
theorem dX12_throats_136 : decode cX12_throats 136 = .ok (.iload 8, 2) := by decide +kernel
theorem dX12_throats_138 : decode cX12_throats 138 = .ok (.iconst (-1), 1) := by decide +kernel
theorem dX12_throats_139 : decode cX12_throats 139 = .ok (.ixor, 1) := by decide +kernel
theorem dX12_throats_140 : decode cX12_throats 140 = .ok (.iand, 1) := by decide +kernel
theorem dX12_throats_141 : decode cX12_throats 141 = .ok (.iadd, 1) := by decide +kernel
theorem dX12_throats_142 : decode cX12_throats 142 = .ok (.baload, 1) := by decide +kernel
theorem dX12_throats_143 : decode cX12_throats 143 = .ok (.ifCond .eq 7, 3) := by decide +kernel
theorem dX12_throats_146 : decode cX12_throats 146 = .ok (.iconst 1, 1) := by decide +kernel
theorem dX12_throats_147 : decode cX12_throats 147 = .ok (.goto 4, 3) := by decide +kernel
theorem dX12_throats_150 : decode cX12_throats 150 = .ok (.iconst 0, 1) := by decide +kernel
theorem dX12_throats_151 : decode cX12_throats 151 = .ok (.istore 7, 2) := by decide +kernel
theorem dX12_throats_153 : decode cX12_throats 153 = .ok (.iload 8, 2) := by decide +kernel
theorem dX12_throats_155 : decode cX12_throats 155 = .ok (.iconst 1, 1) := by decide +kernel
theorem dX12_throats_156 : decode cX12_throats 156 = .ok (.isub, 1) := by decide +kernel
theorem dX12_throats_157 : decode cX12_throats 157 = .ok (.iload 6, 2) := by decide +kernel
theorem dX12_throats_159 : decode cX12_throats 159 = .ok (.iand, 1) := by decide +kernel
theorem dX12_throats_160 : decode cX12_throats 160 = .ok (.istore 8, 2) := by decide +kernel
theorem dX12_throats_162 : decode cX12_throats 162 = .ok (.goto (-66), 3) := by decide +kernel
theorem dX12_throats_165 : decode cX12_throats 165 = .ok (.iload 7, 2) := by decide +kernel
theorem dX12_throats_167 : decode cX12_throats 167 = .ok (.ifCond .ne 23, 3) := by decide +kernel
theorem dX12_throats_170 : decode cX12_throats 170 = .ok (.iload_n 3, 1) := by decide +kernel
theorem dX12_throats_171 : decode cX12_throats 171 = .ok (.ifCond .le 23, 3) := by decide +kernel
theorem dX12_throats_174 : decode cX12_throats 174 = .ok (.aload_n 0, 1) := by decide +kernel
theorem dX12_throats_175 : decode cX12_throats 175 = .ok (.getfield 112, 3) := by decide +kernel
theorem dX12_throats_178 : decode cX12_throats 178 = .ok (.iload 5, 2) := by decide +kernel
theorem dX12_throats_180 : decode cX12_throats 180 = .ok (.bipush 10, 2) := by decide +kernel
theorem dX12_throats_182 : decode cX12_throats 182 = .ok (.ishl, 1) := by decide +kernel
theorem dX12_throats_183 : decode cX12_throats 183 = .ok (.iload 6, 2) := by decide +kernel
theorem dX12_throats_185 : decode cX12_throats 185 = .ok (.iadd, 1) := by decide +kernel
theorem dX12_throats_186 : decode cX12_throats 186 = .ok (.baload, 1) := by decide +kernel
theorem dX12_throats_187 : decode cX12_throats 187 = .ok (.ifCond .eq 7, 3) := by decide +kernel
theorem dX12_throats_190 : decode cX12_throats 190 = .ok (.iconst 1, 1) := by decide +kernel
theorem dX12_throats_191 : decode cX12_throats 191 = .ok (.goto 4, 3) := by decide +kernel
theorem dX12_throats_194 : decode cX12_throats 194 = .ok (.iconst 0, 1) := by decide +kernel
theorem dX12_throats_195 : decode cX12_throats 195 = .ok (.istore 7, 2) := by decide +kernel
theorem dX12_throats_197 : decode cX12_throats 197 = .ok (.aload_n 0, 1) := by decide +kernel
theorem dX12_throats_198 : decode cX12_throats 198 = .ok (.getfield 112, 3) := by decide +kernel
theorem dX12_throats_201 : decode cX12_throats 201 = .ok (.iload_n 3, 1) := by decide +kernel
theorem dX12_throats_202 : decode cX12_throats 202 = .ok (.bipush 10, 2) := by decide +kernel
theorem dX12_throats_204 : decode cX12_throats 204 = .ok (.ishl, 1) := by decide +kernel
theorem dX12_throats_205 : decode cX12_throats 205 = .ok (.iload 6, 2) := by decide +kernel
theorem dX12_throats_207 : decode cX12_throats 207 = .ok (.iadd, 1) := by decide +kernel
theorem dX12_throats_208 : decode cX12_throats 208 = .ok (.iload 7, 2) := by decide +kernel
theorem dX12_throats_210 : decode cX12_throats 210 = .ok (.bastore, 1) := by decide +kernel
theorem dX12_throats_211 : decode cX12_throats 211 = .ok (.iinc 6 1, 3) := by decide +kernel
theorem dX12_throats_214 : decode cX12_throats 214 = .ok (.goto (-152), 3) := by decide +kernel
theorem dX12_throats_217 : decode cX12_throats 217 = .ok (.aload_n 0, 1) := by decide +kernel
theorem dX12_throats_218 : decode cX12_throats 218 = .ok (.getfield 112, 3) := by decide +kernel
theorem dX12_throats_221 : decode cX12_throats 221 = .ok (.iload_n 3, 1) := by decide +kernel
theorem dX12_throats_222 : decode cX12_throats 222 = .ok (.bipush 10, 2) := by decide +kernel
theorem dX12_throats_224 : decode cX12_throats 224 = .ok (.ishl, 1) := by decide +kernel
theorem dX12_throats_225 : decode cX12_throats 225 = .ok (.iload_n 1, 1) := by decide +kernel
theorem dX12_throats_226 : decode cX12_throats 226 = .ok (.iadd, 1) := by decide +kernel
theorem dX12_throats_227 : decode cX12_throats 227 = .ok (.baload, 1) := by decide +kernel
theorem dX12_throats_228 : decode cX12_throats 228 = .ok (.ifCond .eq 21, 3) := by decide +kernel
theorem dX12_throats_231 : decode cX12_throats 231 = .ok (.iload_n 2, 1) := by decide +kernel
theorem dX12_throats_232 : decode cX12_throats 232 = .ok (.iconst (-1), 1) := by decide +kernel
theorem dX12_throats_233 : decode cX12_throats 233 = .ok (.if_icmp .eq 14, 3) := by decide +kernel
theorem dX12_throats_236 : decode cX12_throats 236 = .ok (.iload_n 3, 1) := by decide +kernel
theorem dX12_throats_237 : decode cX12_throats 237 = .ok (.invokestatic 364, 3) := by decide +kernel
theorem dX12_throats_240 : decode cX12_throats 240 = .ok (.iload_n 2, 1) := by decide +kernel
theorem dX12_throats_241 : decode cX12_throats 241 = .ok (.invokestatic 364, 3) := by decide +kernel
theorem dX12_throats_244 : decode cX12_throats 244 = .ok (.if_icmp .ge 5, 3) := by decide +kernel
theorem dX12_throats_247 : decode cX12_throats 247 = .ok (.iload_n 3, 1) := by decide +kernel
theorem dX12_throats_248 : decode cX12_throats 248 = .ok (.istore_n 2, 1) := by decide +kernel
theorem dX12_throats_249 : decode cX12_throats 249 = .ok (.iinc 3 1, 3) := by decide +kernel
theorem dX12_throats_252 : decode cX12_throats 252 = .ok (.goto (-237), 3) := by decide +kernel
theorem dX12_throats_255 : decode cX12_throats 255 = .ok (.iload_n 2, 1) := by decide +kernel
theorem dX12_throats_256 : decode cX12_throats 256 = .ok (.ireturn, 1) := by decide +kernel
theorem dX12_toDraw_0 : decode cX12_toDraw 0 = .ok (.aload_n 0, 1) := by decide +kernel
theorem dX12_toDraw_1 : decode cX12_toDraw 1 = .ok (.iconst 0, 1) := by decide +kernel
theorem dX12_toDraw_2 : decode cX12_toDraw 2 = .ok (.putfield 158, 3) := by decide +kernel
theorem dX12_toDraw_5 : decode cX12_toDraw 5 = .ok (.aload_n 0, 1) := by decide +kernel
theorem dX12_toDraw_6 : decode cX12_toDraw 6 = .ok (.iload_n 1, 1) := by decide +kernel
theorem dX12_toDraw_7 : decode cX12_toDraw 7 = .ok (.invokevirtual 399, 3) := by decide +kernel
theorem dX12_toDraw_10 : decode cX12_toDraw 10 = .ok (.ifCond .ne 9, 3) := by decide +kernel
theorem dX12_toDraw_13 : decode cX12_toDraw 13 = .ok (.aload_n 0, 1) := by decide +kernel
theorem dX12_toDraw_14 : decode cX12_toDraw 14 = .ok (.iconst 1, 1) := by decide +kernel
theorem dX12_toDraw_15 : decode cX12_toDraw 15 = .ok (.invokevirtual 312, 3) := by decide +kernel
theorem dX12_toDraw_18 : decode cX12_toDraw 18 = .ok (.ireturn, 1) := by decide +kernel
theorem dX12_toDraw_19 : decode cX12_toDraw 19 = .ok (.aload_n 0, 1) := by decide +kernel
theorem dX12_toDraw_20 : decode cX12_toDraw 20 = .ok (.getfield 72, 3) := by decide +kernel
theorem dX12_toDraw_23 : decode cX12_toDraw 23 = .ok (.iload_n 1, 1) := by decide +kernel
theorem dX12_toDraw_24 : decode cX12_toDraw 24 = .ok (.iaload, 1) := by decide +kernel
theorem dX12_toDraw_25 : decode cX12_toDraw 25 = .ok (.iconst 1, 1) := by decide +kernel
theorem dX12_toDraw_26 : decode cX12_toDraw 26 = .ok (.if_icmp .ne 15, 3) := by decide +kernel
theorem dX12_toDraw_29 : decode cX12_toDraw 29 = .ok (.aload_n 0, 1) := by decide +kernel
theorem dX12_toDraw_30 : decode cX12_toDraw 30 = .ok (.iload_n 1, 1) := by decide +kernel
theorem dX12_toDraw_31 : decode cX12_toDraw 31 = .ok (.invokevirtual 361, 3) := by decide +kernel
theorem dX12_toDraw_34 : decode cX12_toDraw 34 = .ok (.iconst 1, 1) := by decide +kernel
theorem dX12_toDraw_35 : decode cX12_toDraw 35 = .ok (.iload_n 1, 1) := by decide +kernel
theorem dX12_toDraw_36 : decode cX12_toDraw 36 = .ok (.ishl, 1) := by decide +kernel
theorem dX12_toDraw_37 : decode cX12_toDraw 37 = .ok (.ior, 1) := by decide +kernel
theorem dX12_toDraw_38 : decode cX12_toDraw 38 = .ok (.goto 4, 3) := by decide +kernel
theorem dX12_toDraw_41 : decode cX12_toDraw 41 = .ok (.iconst 0, 1) := by decide +kernel
theorem dX12_toDraw_42 : decode cX12_toDraw 42 = .ok (.ireturn, 1) := by decide +kernel
theorem dX12_firstRoom_0 : decode cX12_firstRoom 0 = .ok (.iconst 0, 1) := by decide +kernel
theorem dX12_firstRoom_1 : decode cX12_firstRoom 1 = .ok (.istore_n 2, 1) := by decide +kernel
theorem dX12_firstRoom_2 : decode cX12_firstRoom 2 = .ok (.iload_n 2, 1) := by decide +kernel
theorem dX12_firstRoom_3 : decode cX12_firstRoom 3 = .ok (.aload_n 0, 1) := by decide +kernel
theorem dX12_firstRoom_4 : decode cX12_firstRoom 4 = .ok (.getfield 33, 3) := by decide +kernel
theorem dX12_firstRoom_7 : decode cX12_firstRoom 7 = .ok (.iconst 1, 1) := by decide +kernel
theorem dX12_firstRoom_8 : decode cX12_firstRoom 8 = .ok (.iaload, 1) := by decide +kernel
theorem dX12_firstRoom_9 : decode cX12_firstRoom 9 = .ok (.if_icmp .ge 25, 3) := by decide +kernel
theorem dX12_firstRoom_12 : decode cX12_firstRoom 12 = .ok (.aload_n 0, 1) := by decide +kernel
theorem dX12_firstRoom_13 : decode cX12_firstRoom 13 = .ok (.getfield 49, 3) := by decide +kernel
theorem dX12_firstRoom_16 : decode cX12_firstRoom 16 = .ok (.iload_n 1, 1) := by decide +kernel
theorem dX12_firstRoom_17 : decode cX12_firstRoom 17 = .ok (.iaload, 1) := by decide +kernel
theorem dX12_firstRoom_18 : decode cX12_firstRoom 18 = .ok (.aload_n 0, 1) := by decide +kernel
theorem dX12_firstRoom_19 : decode cX12_firstRoom 19 = .ok (.iload_n 2, 1) := by decide +kernel
theorem dX12_firstRoom_20 : decode cX12_firstRoom 20 = .ok (.invokevirtual 405, 3) := by decide +kernel
theorem dX12_firstRoom_23 : decode cX12_firstRoom 23 = .ok (.if_icmp .gt 5, 3) := by decide +kernel
theorem dX12_firstRoom_26 : decode cX12_firstRoom 26 = .ok (.iload_n 2, 1) := by decide +kernel
theorem dX12_firstRoom_27 : decode cX12_firstRoom 27 = .ok (.ireturn, 1) := by decide +kernel
theorem dX12_firstRoom_28 : decode cX12_firstRoom 28 = .ok (.iinc 2 1, 3) := by decide +kernel
theorem dX12_firstRoom_31 : decode cX12_firstRoom 31 = .ok (.goto (-29), 3) := by decide +kernel
theorem dX12_firstRoom_34 : decode cX12_firstRoom 34 = .ok (.iconst (-1), 1) := by decide +kernel
theorem dX12_firstRoom_35 : decode cX12_firstRoom 35 = .ok (.ireturn, 1) := by decide +kernel
theorem dX12_toSwallow_0 : decode cX12_toSwallow 0 = .ok (.aload_n 0, 1) := by decide +kernel
theorem dX12_toSwallow_1 : decode cX12_toSwallow 1 = .ok (.iconst 0, 1) := by decide +kernel
theorem dX12_toSwallow_2 : decode cX12_toSwallow 2 = .ok (.putfield 158, 3) := by decide +kernel
theorem dX12_toSwallow_5 : decode cX12_toSwallow 5 = .ok (.iload_n 1, 1) := by decide +kernel
theorem dX12_toSwallow_6 : decode cX12_toSwallow 6 = .ok (.ifCond .lt 8, 3) := by decide +kernel
theorem dX12_toSwallow_9 : decode cX12_toSwallow 9 = .ok (.iload_n 1, 1) := by decide +kernel
theorem dX12_toSwallow_10 : decode cX12_toSwallow 10 = .ok (.iconst 1, 1) := by decide +kernel
theorem dX12_toSwallow_11 : decode cX12_toSwallow 11 = .ok (.if_icmp .le 9, 3) := by decide +kernel
theorem dX12_toSwallow_14 : decode cX12_toSwallow 14 = .ok (.aload_n 0, 1) := by decide +kernel
theorem dX12_toSwallow_15 : decode cX12_toSwallow 15 = .ok (.iconst 1, 1) := by decide +kernel
theorem dX12_toSwallow_16 : decode cX12_toSwallow 16 = .ok (.invokevirtual 312, 3) := by decide +kernel
theorem dX12_toSwallow_19 : decode cX12_toSwallow 19 = .ok (.ireturn, 1) := by decide +kernel
theorem dX12_toSwallow_20 : decode cX12_toSwallow 20 = .ok (.aload_n 0, 1) := by decide +kernel
theorem dX12_toSwallow_21 : decode cX12_toSwallow 21 = .ok (.invokevirtual 437, 3) := by decide +kernel
theorem dX12_toSwallow_24 : decode cX12_toSwallow 24 = .ok (.istore_n 2, 1) := by decide +kernel
theorem dX12_toSwallow_25 : decode cX12_toSwallow 25 = .ok (.iconst (-1), 1) := by decide +kernel
theorem dX12_toSwallow_26 : decode cX12_toSwallow 26 = .ok (.istore_n 3, 1) := by decide +kernel
theorem dX12_toSwallow_27 : decode cX12_toSwallow 27 = .ok (.aload_n 0, 1) := by decide +kernel
theorem dX12_toSwallow_28 : decode cX12_toSwallow 28 = .ok (.aload_n 0, 1) := by decide +kernel
theorem dX12_toSwallow_29 : decode cX12_toSwallow 29 = .ok (.getfield 102, 3) := by decide +kernel
theorem dX12_toSwallow_32 : decode cX12_toSwallow 32 = .ok (.iconst 0, 1) := by decide +kernel
theorem dX12_toSwallow_33 : decode cX12_toSwallow 33 = .ok (.invokevirtual 414, 3) := by decide +kernel
theorem dX12_toSwallow_36 : decode cX12_toSwallow 36 = .ok (.iconst 0, 1) := by decide +kernel
theorem dX12_toSwallow_37 : decode cX12_toSwallow 37 = .ok (.istore 4, 2) := by decide +kernel
theorem dX12_toSwallow_39 : decode cX12_toSwallow 39 = .ok (.iload 4, 2) := by decide +kernel
theorem dX12_toSwallow_41 : decode cX12_toSwallow 41 = .ok (.aload_n 0, 1) := by decide +kernel
theorem dX12_toSwallow_42 : decode cX12_toSwallow 42 = .ok (.getfield 33, 3) := by decide +kernel
theorem dX12_toSwallow_45 : decode cX12_toSwallow 45 = .ok (.iconst 2, 1) := by decide +kernel
theorem dX12_toSwallow_46 : decode cX12_toSwallow 46 = .ok (.iaload, 1) := by decide +kernel
theorem dX12_toSwallow_47 : decode cX12_toSwallow 47 = .ok (.if_icmp .ge 78, 3) := by decide +kernel
theorem dX12_toSwallow_50 : decode cX12_toSwallow 50 = .ok (.aload_n 0, 1) := by decide +kernel
theorem dX12_toSwallow_51 : decode cX12_toSwallow 51 = .ok (.getfield 72, 3) := by decide +kernel
theorem dX12_toSwallow_54 : decode cX12_toSwallow 54 = .ok (.iload 4, 2) := by decide +kernel
theorem dX12_toSwallow_56 : decode cX12_toSwallow 56 = .ok (.iaload, 1) := by decide +kernel
theorem dX12_toSwallow_57 : decode cX12_toSwallow 57 = .ok (.ifCond .ne 12, 3) := by decide +kernel
theorem dX12_toSwallow_60 : decode cX12_toSwallow 60 = .ok (.aload_n 0, 1) := by decide +kernel
theorem dX12_toSwallow_61 : decode cX12_toSwallow 61 = .ok (.iload 4, 2) := by decide +kernel
theorem dX12_toSwallow_63 : decode cX12_toSwallow 63 = .ok (.invokevirtual 451, 3) := by decide +kernel
theorem dX12_toSwallow_66 : decode cX12_toSwallow 66 = .ok (.goto 4, 3) := by decide +kernel
theorem dX12_toSwallow_69 : decode cX12_toSwallow 69 = .ok (.iconst (-1), 1) := by decide +kernel
theorem dX12_toSwallow_70 : decode cX12_toSwallow 70 = .ok (.istore 5, 2) := by decide +kernel
theorem dX12_toSwallow_72 : decode cX12_toSwallow 72 = .ok (.iload 5, 2) := by decide +kernel
theorem dX12_toSwallow_74 : decode cX12_toSwallow 74 = .ok (.iconst (-1), 1) := by decide +kernel
theorem dX12_toSwallow_75 : decode cX12_toSwallow 75 = .ok (.if_icmp .ne 6, 3) := by decide +kernel
theorem dX12_toSwallow_78 : decode cX12_toSwallow 78 = .ok (.goto 41, 3) := by decide +kernel
theorem dX12_toSwallow_81 : decode cX12_toSwallow 81 = .ok (.aload_n 0, 1) := by decide +kernel
theorem dX12_toSwallow_82 : decode cX12_toSwallow 82 = .ok (.iload 4, 2) := by decide +kernel
theorem dX12_toSwallow_84 : decode cX12_toSwallow 84 = .ok (.iload 5, 2) := by decide +kernel
theorem dX12_toSwallow_86 : decode cX12_toSwallow 86 = .ok (.invokevirtual 429, 3) := by decide +kernel
theorem dX12_toSwallow_89 : decode cX12_toSwallow 89 = .ok (.aload_n 0, 1) := by decide +kernel
theorem dX12_toSwallow_90 : decode cX12_toSwallow 90 = .ok (.invokevirtual 437, 3) := by decide +kernel
theorem dX12_toSwallow_93 : decode cX12_toSwallow 93 = .ok (.istore 6, 2) := by decide +kernel
theorem dX12_toSwallow_95 : decode cX12_toSwallow 95 = .ok (.aload_n 0, 1) := by decide +kernel
theorem dX12_toSwallow_96 : decode cX12_toSwallow 96 = .ok (.aload_n 0, 1) := by decide +kernel
theorem dX12_toSwallow_97 : decode cX12_toSwallow 97 = .ok (.getfield 102, 3) := by decide +kernel
theorem dX12_toSwallow_100 : decode cX12_toSwallow 100 = .ok (.iconst 0, 1) := by decide +kernel
theorem dX12_toSwallow_101 : decode cX12_toSwallow 101 = .ok (.invokevirtual 432, 3) := by decide +kernel
theorem dX12_toSwallow_104 : decode cX12_toSwallow 104 = .ok (.iload 6, 2) := by decide +kernel
theorem dX12_toSwallow_106 : decode cX12_toSwallow 106 = .ok (.iload_n 2, 1) := by decide +kernel
theorem dX12_toSwallow_107 : decode cX12_toSwallow 107 = .ok (.if_icmp .gt 6, 3) := by decide +kernel
theorem dX12_toSwallow_110 : decode cX12_toSwallow 110 = .ok (.goto 9, 3) := by decide +kernel
theorem dX12_toSwallow_113 : decode cX12_toSwallow 113 = .ok (.iload 4, 2) := by decide +kernel
theorem dX12_toSwallow_115 : decode cX12_toSwallow 115 = .ok (.istore_n 3, 1) := by decide +kernel
theorem dX12_toSwallow_116 : decode cX12_toSwallow 116 = .ok (.iload 6, 2) := by decide +kernel
theorem dX12_toSwallow_118 : decode cX12_toSwallow 118 = .ok (.istore_n 2, 1) := by decide +kernel
theorem dX12_toSwallow_119 : decode cX12_toSwallow 119 = .ok (.iinc 4 1, 3) := by decide +kernel
theorem dX12_toSwallow_122 : decode cX12_toSwallow 122 = .ok (.goto (-83), 3) := by decide +kernel
theorem dX12_toSwallow_125 : decode cX12_toSwallow 125 = .ok (.iload_n 1, 1) := by decide +kernel
theorem dX12_toSwallow_126 : decode cX12_toSwallow 126 = .ok (.ifCond .ne 5, 3) := by decide +kernel
theorem dX12_toSwallow_129 : decode cX12_toSwallow 129 = .ok (.iload_n 3, 1) := by decide +kernel
theorem dX12_toSwallow_130 : decode cX12_toSwallow 130 = .ok (.ireturn, 1) := by decide +kernel
theorem dX12_toSwallow_131 : decode cX12_toSwallow 131 = .ok (.iload_n 3, 1) := by decide +kernel
theorem dX12_toSwallow_132 : decode cX12_toSwallow 132 = .ok (.iconst (-1), 1) := by decide +kernel
theorem dX12_toSwallow_133 : decode cX12_toSwallow 133 = .ok (.if_icmp .eq 10, 3) := by decide +kernel
theorem dX12_toSwallow_136 : decode cX12_toSwallow 136 = .ok (.iload_n 2, 1) := by decide +kernel
theorem dX12_toSwallow_137 : decode cX12_toSwallow 137 = .ok (.sipush 1000, 3) := by decide +kernel
theorem dX12_toSwallow_140 : decode cX12_toSwallow 140 = .ok (.if_icmp .ne 7, 3) := by decide +kernel
theorem dX12_toSwallow_143 : decode cX12_toSwallow 143 = .ok (.iconst (-1), 1) := by decide +kernel
theorem dX12_toSwallow_144 : decode cX12_toSwallow 144 = .ok (.goto 4, 3) := by decide +kernel
theorem dX12_toSwallow_147 : decode cX12_toSwallow 147 = .ok (.iload_n 2, 1) := by decide +kernel
theorem dX12_toSwallow_148 : decode cX12_toSwallow 148 = .ok (.ireturn, 1) := by decide +kernel
theorem dX12_camps_0 : decode cX12_camps 0 = .ok (.aload_n 0, 1) := by decide +kernel
theorem dX12_camps_1 : decode cX12_camps 1 = .ok (.iconst 0, 1) := by decide +kernel
theorem dX12_camps_2 : decode cX12_camps 2 = .ok (.putfield 158, 3) := by decide +kernel
theorem dX12_camps_5 : decode cX12_camps 5 = .ok (.iconst 0, 1) := by decide +kernel
theorem dX12_camps_6 : decode cX12_camps 6 = .ok (.istore_n 1, 1) := by decide +kernel
theorem dX12_camps_7 : decode cX12_camps 7 = .ok (.iconst 0, 1) := by decide +kernel
theorem dX12_camps_8 : decode cX12_camps 8 = .ok (.istore_n 2, 1) := by decide +kernel
theorem dX12_camps_9 : decode cX12_camps 9 = .ok (.iconst 0, 1) := by decide +kernel
theorem dX12_camps_10 : decode cX12_camps 10 = .ok (.istore_n 3, 1) := by decide +kernel
theorem dX12_camps_11 : decode cX12_camps 11 = .ok (.iload_n 3, 1) := by decide +kernel
theorem dX12_camps_12 : decode cX12_camps 12 = .ok (.bipush 6, 2) := by decide +kernel
theorem dX12_camps_14 : decode cX12_camps 14 = .ok (.if_icmp .ge 107, 3) := by decide +kernel
theorem dX12_camps_17 : decode cX12_camps 17 = .ok (.aload_n 0, 1) := by decide +kernel
theorem dX12_camps_18 : decode cX12_camps 18 = .ok (.getfield 84, 3) := by decide +kernel
theorem dX12_camps_21 : decode cX12_camps 21 = .ok (.iload_n 3, 1) := by decide +kernel
theorem dX12_camps_22 : decode cX12_camps 22 = .ok (.iaload, 1) := by decide +kernel
theorem dX12_camps_23 : decode cX12_camps 23 = .ok (.ifCond .eq 92, 3) := by decide +kernel
theorem dX12_camps_26 : decode cX12_camps 26 = .ok (.iload_n 1, 1) := by decide +kernel
theorem dX12_camps_27 : decode cX12_camps 27 = .ok (.iload_n 2, 1) := by decide +kernel
theorem dX12_camps_28 : decode cX12_camps 28 = .ok (.ior, 1) := by decide +kernel
theorem dX12_camps_29 : decode cX12_camps 29 = .ok (.iload_n 3, 1) := by decide +kernel
theorem dX12_camps_30 : decode cX12_camps 30 = .ok (.invokestatic 284, 3) := by decide +kernel
theorem dX12_camps_33 : decode cX12_camps 33 = .ok (.ifCond .eq 6, 3) := by decide +kernel
theorem dX12_camps_36 : decode cX12_camps 36 = .ok (.goto 79, 3) := by decide +kernel
theorem dX12_camps_39 : decode cX12_camps 39 = .ok (.iload_n 1, 1) := by decide +kernel
theorem dX12_camps_40 : decode cX12_camps 40 = .ok (.iconst 1, 1) := by decide +kernel
theorem dX12_camps_41 : decode cX12_camps 41 = .ok (.iload_n 3, 1) := by decide +kernel
theorem dX12_camps_42 : decode cX12_camps 42 = .ok (.ishl, 1) := by decide +kernel
theorem dX12_camps_43 : decode cX12_camps 43 = .ok (.ior, 1) := by decide +kernel
theorem dX12_camps_44 : decode cX12_camps 44 = .ok (.istore_n 1, 1) := by decide +kernel
theorem dX12_camps_45 : decode cX12_camps 45 = .ok (.iconst 0, 1) := by decide +kernel
theorem dX12_camps_46 : decode cX12_camps 46 = .ok (.istore 4, 2) := by decide +kernel
theorem dX12_camps_48 : decode cX12_camps 48 = .ok (.iload 4, 2) := by decide +kernel
theorem dX12_camps_50 : decode cX12_camps 50 = .ok (.bipush 6, 2) := by decide +kernel
theorem dX12_camps_52 : decode cX12_camps 52 = .ok (.if_icmp .ge 63, 3) := by decide +kernel
theorem dX12_camps_55 : decode cX12_camps 55 = .ok (.iconst 0, 1) := by decide +kernel
theorem dX12_camps_56 : decode cX12_camps 56 = .ok (.istore 5, 2) := by decide +kernel
theorem dX12_camps_58 : decode cX12_camps 58 = .ok (.iload 5, 2) := by decide +kernel
theorem dX12_camps_60 : decode cX12_camps 60 = .ok (.bipush 6, 2) := by decide +kernel
theorem dX12_camps_62 : decode cX12_camps 62 = .ok (.if_icmp .ge 47, 3) := by decide +kernel
theorem dX12_camps_65 : decode cX12_camps 65 = .ok (.iload_n 1, 1) := by decide +kernel
theorem dX12_camps_66 : decode cX12_camps 66 = .ok (.iload 5, 2) := by decide +kernel
theorem dX12_camps_68 : decode cX12_camps 68 = .ok (.invokestatic 284, 3) := by decide +kernel
theorem dX12_camps_71 : decode cX12_camps 71 = .ok (.ifCond .eq 13, 3) := by decide +kernel
theorem dX12_camps_74 : decode cX12_camps 74 = .ok (.iload_n 2, 1) := by decide +kernel
theorem dX12_camps_75 : decode cX12_camps 75 = .ok (.aload_n 0, 1) := by decide +kernel
theorem dX12_camps_76 : decode cX12_camps 76 = .ok (.getfield 84, 3) := by decide +kernel
theorem dX12_camps_79 : decode cX12_camps 79 = .ok (.iload 5, 2) := by decide +kernel
theorem dX12_camps_81 : decode cX12_camps 81 = .ok (.iaload, 1) := by decide +kernel
theorem dX12_camps_82 : decode cX12_camps 82 = .ok (.ior, 1) := by decide +kernel
theorem dX12_camps_83 : decode cX12_camps 83 = .ok (.istore_n 2, 1) := by decide +kernel
theorem dX12_camps_84 : decode cX12_camps 84 = .ok (.iload_n 2, 1) := by decide +kernel
theorem dX12_camps_85 : decode cX12_camps 85 = .ok (.iload 5, 2) := by decide +kernel
theorem dX12_camps_87 : decode cX12_camps 87 = .ok (.invokestatic 284, 3) := by decide +kernel
theorem dX12_camps_90 : decode cX12_camps 90 = .ok (.ifCond .eq 13, 3) := by decide +kernel
theorem dX12_camps_93 : decode cX12_camps 93 = .ok (.iload_n 1, 1) := by decide +kernel
theorem dX12_camps_94 : decode cX12_camps 94 = .ok (.aload_n 0, 1) := by decide +kernel
theorem dX12_camps_95 : decode cX12_camps 95 = .ok (.getfield 84, 3) := by decide +kernel
theorem dX12_camps_98 : decode cX12_camps 98 = .ok (.iload 5, 2) := by decide +kernel
theorem dX12_camps_100 : decode cX12_camps 100 = .ok (.iaload, 1) := by decide +kernel
theorem dX12_camps_101 : decode cX12_camps 101 = .ok (.ior, 1) := by decide +kernel
theorem dX12_camps_102 : decode cX12_camps 102 = .ok (.istore_n 1, 1) := by decide +kernel
theorem dX12_camps_103 : decode cX12_camps 103 = .ok (.iinc 5 1, 3) := by decide +kernel
theorem dX12_camps_106 : decode cX12_camps 106 = .ok (.goto (-48), 3) := by decide +kernel
theorem dX12_camps_109 : decode cX12_camps 109 = .ok (.iinc 4 1, 3) := by decide +kernel
theorem dX12_camps_112 : decode cX12_camps 112 = .ok (.goto (-64), 3) := by decide +kernel
theorem dX12_camps_115 : decode cX12_camps 115 = .ok (.iinc 3 1, 3) := by decide +kernel
theorem dX12_camps_118 : decode cX12_camps 118 = .ok (.goto (-107), 3) := by decide +kernel
theorem dX12_camps_121 : decode cX12_camps 121 = .ok (.iload_n 1, 1) := by decide +kernel
theorem dX12_camps_122 : decode cX12_camps 122 = .ok (.iload_n 2, 1) := by decide +kernel
theorem dX12_camps_123 : decode cX12_camps 123 = .ok (.iand, 1) := by decide +kernel
theorem dX12_camps_124 : decode cX12_camps 124 = .ok (.ifCond .eq 7, 3) := by decide +kernel
theorem dX12_camps_127 : decode cX12_camps 127 = .ok (.iconst (-1), 1) := by decide +kernel
theorem dX12_camps_128 : decode cX12_camps 128 = .ok (.goto 4, 3) := by decide +kernel
theorem dX12_camps_131 : decode cX12_camps 131 = .ok (.iload_n 1, 1) := by decide +kernel
theorem dX12_camps_132 : decode cX12_camps 132 = .ok (.ireturn, 1) := by decide +kernel
theorem dX12_couplesOf_0 : decode cX12_couplesOf 0 = .ok (.iconst 0, 1) := by decide +kernel
theorem dX12_couplesOf_1 : decode cX12_couplesOf 1 = .ok (.istore_n 2, 1) := by decide +kernel
theorem dX12_couplesOf_2 : decode cX12_couplesOf 2 = .ok (.iconst 0, 1) := by decide +kernel
theorem dX12_couplesOf_3 : decode cX12_couplesOf 3 = .ok (.istore_n 3, 1) := by decide +kernel
theorem dX12_couplesOf_4 : decode cX12_couplesOf 4 = .ok (.iload_n 3, 1) := by decide +kernel
theorem dX12_couplesOf_5 : decode cX12_couplesOf 5 = .ok (.bipush 6, 2) := by decide +kernel
theorem dX12_couplesOf_7 : decode cX12_couplesOf 7 = .ok (.if_icmp .ge 83, 3) := by decide +kernel
theorem dX12_couplesOf_10 : decode cX12_couplesOf 10 = .ok (.iload_n 3, 1) := by decide +kernel
theorem dX12_couplesOf_11 : decode cX12_couplesOf 11 = .ok (.iconst 1, 1) := by decide +kernel
theorem dX12_couplesOf_12 : decode cX12_couplesOf 12 = .ok (.iadd, 1) := by decide +kernel
theorem dX12_couplesOf_13 : decode cX12_couplesOf 13 = .ok (.istore 4, 2) := by decide +kernel
theorem dX12_couplesOf_15 : decode cX12_couplesOf 15 = .ok (.iload 4, 2) := by decide +kernel
theorem dX12_couplesOf_17 : decode cX12_couplesOf 17 = .ok (.bipush 6, 2) := by decide +kernel
theorem dX12_couplesOf_19 : decode cX12_couplesOf 19 = .ok (.if_icmp .ge 65, 3) := by decide +kernel
theorem dX12_couplesOf_22 : decode cX12_couplesOf 22 = .ok (.iload_n 1, 1) := by decide +kernel
theorem dX12_couplesOf_23 : decode cX12_couplesOf 23 = .ok (.iload_n 3, 1) := by decide +kernel
theorem dX12_couplesOf_24 : decode cX12_couplesOf 24 = .ok (.invokestatic 284, 3) := by decide +kernel
theorem dX12_couplesOf_27 : decode cX12_couplesOf 27 = .ok (.ifCond .eq 51, 3) := by decide +kernel
theorem dX12_couplesOf_30 : decode cX12_couplesOf 30 = .ok (.iload_n 1, 1) := by decide +kernel
theorem dX12_couplesOf_31 : decode cX12_couplesOf 31 = .ok (.iload 4, 2) := by decide +kernel
theorem dX12_couplesOf_33 : decode cX12_couplesOf 33 = .ok (.invokestatic 284, 3) := by decide +kernel
theorem dX12_couplesOf_36 : decode cX12_couplesOf 36 = .ok (.ifCond .eq 42, 3) := by decide +kernel
theorem dX12_couplesOf_39 : decode cX12_couplesOf 39 = .ok (.aload_n 0, 1) := by decide +kernel
theorem dX12_couplesOf_40 : decode cX12_couplesOf 40 = .ok (.getfield 84, 3) := by decide +kernel
theorem dX12_couplesOf_43 : decode cX12_couplesOf 43 = .ok (.iload_n 3, 1) := by decide +kernel
theorem dX12_couplesOf_44 : decode cX12_couplesOf 44 = .ok (.iaload, 1) := by decide +kernel
theorem dX12_couplesOf_45 : decode cX12_couplesOf 45 = .ok (.iload 4, 2) := by decide +kernel
theorem dX12_couplesOf_47 : decode cX12_couplesOf 47 = .ok (.invokestatic 284, 3) := by decide +kernel
theorem dX12_couplesOf_50 : decode cX12_couplesOf 50 = .ok (.ifCond .eq 28, 3) := by decide +kernel
theorem dX12_couplesOf_53 : decode cX12_couplesOf 53 = .ok (.iload_n 2, 1) := by decide +kernel
theorem dX12_couplesOf_54 : decode cX12_couplesOf 54 = .ok (.iconst 1, 1) := by decide +kernel
theorem dX12_couplesOf_55 : decode cX12_couplesOf 55 = .ok (.aload_n 0, 1) := by decide +kernel
theorem dX12_couplesOf_56 : decode cX12_couplesOf 56 = .ok (.iload_n 1, 1) := by decide +kernel
theorem dX12_couplesOf_57 : decode cX12_couplesOf 57 = .ok (.iconst 1, 1) := by decide +kernel
theorem dX12_couplesOf_58 : decode cX12_couplesOf 58 = .ok (.iload_n 3, 1) := by decide +kernel
theorem dX12_couplesOf_59 : decode cX12_couplesOf 59 = .ok (.ishl, 1) := by decide +kernel
theorem dX12_couplesOf_60 : decode cX12_couplesOf 60 = .ok (.iconst (-1), 1) := by decide +kernel
theorem dX12_couplesOf_61 : decode cX12_couplesOf 61 = .ok (.ixor, 1) := by decide +kernel
theorem dX12_couplesOf_62 : decode cX12_couplesOf 62 = .ok (.iand, 1) := by decide +kernel
theorem dX12_couplesOf_63 : decode cX12_couplesOf 63 = .ok (.iconst 1, 1) := by decide +kernel
theorem dX12_couplesOf_64 : decode cX12_couplesOf 64 = .ok (.iload 4, 2) := by decide +kernel
theorem dX12_couplesOf_66 : decode cX12_couplesOf 66 = .ok (.ishl, 1) := by decide +kernel
theorem dX12_couplesOf_67 : decode cX12_couplesOf 67 = .ok (.iconst (-1), 1) := by decide +kernel
theorem dX12_couplesOf_68 : decode cX12_couplesOf 68 = .ok (.ixor, 1) := by decide +kernel
theorem dX12_couplesOf_69 : decode cX12_couplesOf 69 = .ok (.iand, 1) := by decide +kernel
theorem dX12_couplesOf_70 : decode cX12_couplesOf 70 = .ok (.invokevirtual 454, 3) := by decide +kernel
theorem dX12_couplesOf_73 : decode cX12_couplesOf 73 = .ok (.iadd, 1) := by decide +kernel
theorem dX12_couplesOf_74 : decode cX12_couplesOf 74 = .ok (.invokestatic 371, 3) := by decide +kernel
theorem dX12_couplesOf_77 : decode cX12_couplesOf 77 = .ok (.istore_n 2, 1) := by decide +kernel
theorem dX12_couplesOf_78 : decode cX12_couplesOf 78 = .ok (.iinc 4 1, 3) := by decide +kernel
theorem dX12_couplesOf_81 : decode cX12_couplesOf 81 = .ok (.goto (-66), 3) := by decide +kernel
theorem dX12_couplesOf_84 : decode cX12_couplesOf 84 = .ok (.iinc 3 1, 3) := by decide +kernel
theorem dX12_couplesOf_87 : decode cX12_couplesOf 87 = .ok (.goto (-83), 3) := by decide +kernel
theorem dX12_couplesOf_90 : decode cX12_couplesOf 90 = .ok (.iload_n 2, 1) := by decide +kernel
theorem dX12_couplesOf_91 : decode cX12_couplesOf 91 = .ok (.ireturn, 1) := by decide +kernel
theorem dX12_couples_0 : decode cX12_couples 0 = .ok (.aload_n 0, 1) := by decide +kernel
theorem dX12_couples_1 : decode cX12_couples 1 = .ok (.iconst 0, 1) := by decide +kernel
