abbrev wsX0_init : List Cond := Cond.code yX0_init cX0_init 1 none :: gb
abbrev wsX0_field : List Cond := Cond.code yX0_field cX0_field 6 (some .int) :: gb
abbrev wsX0_put : List Cond := Cond.code yX0_put cX0_put 13 (some .int) :: gb
abbrev wsX0_empty : List Cond := Cond.code yX0_empty cX0_empty 1 none :: gb
abbrev wsX0_open : List Cond := Cond.code yX0_open cX0_open 2 (some .int) :: gb
abbrev wsX0_next : List Cond := Cond.code yX0_next cX0_next 2 (some .int) :: gb
abbrev wsX0_item : List Cond := Cond.code yX0_item cX0_item 3 (some .int) :: gb
abbrev wsX0_tile : List Cond := Cond.code yX0_tile cX0_tile 3 (some .int) :: gb
abbrev wsX0_tileOf : List Cond := Cond.code yX0_tileOf cX0_tileOf 3 (some .int) :: gb
abbrev wsX0_count : List Cond := Cond.code yX0_count cX0_count 2 (some .int) :: gb
abbrev wsX0_layOut : List Cond := Cond.code yX0_layOut cX0_layOut 5 none :: gb
abbrev wsX0_takeAllOut : List Cond := Cond.code yX0_takeAllOut cX0_takeAllOut 1 none :: gb
abbrev wsX0_makeRoom : List Cond := Cond.code yX0_makeRoom cX0_makeRoom 1 none :: gb
abbrev wsX0_tilesAcross : List Cond := Cond.code yX0_tilesAcross cX0_tilesAcross 3 (some .int) :: gb
abbrev wsX0_tilesInAll : List Cond := Cond.code yX0_tilesInAll cX0_tilesInAll 1 (some .int) :: gb
abbrev wsX0_isTile : List Cond := Cond.code yX0_isTile cX0_isTile 2 (some .boolean) :: gb
abbrev wsX0_sideLength : List Cond := Cond.code yX0_sideLength cX0_sideLength 1 (some .int) :: gb
abbrev wsX0_leftOf : List Cond := Cond.code yX0_leftOf cX0_leftOf 2 (some .int) :: gb
abbrev wsX0_topOf : List Cond := Cond.code yX0_topOf cX0_topOf 2 (some .int) :: gb
abbrev wsX0_itemsTouching : List Cond := Cond.code yX0_itemsTouching cX0_itemsTouching 6 (some .int) :: gb
abbrev wsX0_firstTouching : List Cond := Cond.code yX0_firstTouching cX0_firstTouching 6 (some .int) :: gb
abbrev wsX0_touches : List Cond := Cond.code yX0_touches cX0_touches 5 (some .boolean) :: gb
abbrev wsX0_isWithin : List Cond := Cond.code yX0_isWithin cX0_isWithin 3 (some .boolean) :: gb
abbrev wsX0_powerOf : List Cond := Cond.code yX0_powerOf cX0_powerOf 1 (some .int) :: gb
abbrev wsJ7_copyOf : List Cond := Cond.code yJ7_copyOf cJ7_copyOf 3 (some (.array .int)) :: gb
theorem dX0_init_0 : decode cX0_init 0 = .ok (.aload_n 0, 1) := by decide +kernel
theorem dX0_init_1 : decode cX0_init 1 = .ok (.invokespecial 1, 3) := by decide +kernel
theorem dX0_init_4 : decode cX0_init 4 = .ok (.aload_n 0, 1) := by decide +kernel
theorem dX0_init_5 : decode cX0_init 5 = .ok (.bipush 96, 2) := by decide +kernel
theorem dX0_init_7 : decode cX0_init 7 = .ok (.newarray .int, 2) := by decide +kernel
theorem dX0_init_9 : decode cX0_init 9 = .ok (.putfield 9, 3) := by decide +kernel
theorem dX0_init_12 : decode cX0_init 12 = .ok (.aload_n 0, 1) := by decide +kernel
theorem dX0_init_13 : decode cX0_init 13 = .ok (.iconst 1, 1) := by decide +kernel
theorem dX0_init_14 : decode cX0_init 14 = .ok (.iconst 1, 1) := by decide +kernel
theorem dX0_init_15 : decode cX0_init 15 = .ok (.iconst 3, 1) := by decide +kernel
theorem dX0_init_16 : decode cX0_init 16 = .ok (.bipush 64, 2) := by decide +kernel
theorem dX0_init_18 : decode cX0_init 18 = .ok (.invokevirtual 13, 3) := by decide +kernel
theorem dX0_init_21 : decode cX0_init 21 = .ok (.return_, 1) := by decide +kernel
theorem dX0_field_0 : decode cX0_field 0 = .ok (.iload_n 1, 1) := by decide +kernel
theorem dX0_field_1 : decode cX0_field 1 = .ok (.iconst 1, 1) := by decide +kernel
theorem dX0_field_2 : decode cX0_field 2 = .ok (.sipush 1024, 3) := by decide +kernel
theorem dX0_field_5 : decode cX0_field 5 = .ok (.invokestatic 17, 3) := by decide +kernel
theorem dX0_field_8 : decode cX0_field 8 = .ok (.ifCond .eq 14, 3) := by decide +kernel
theorem dX0_field_11 : decode cX0_field 11 = .ok (.iload_n 2, 1) := by decide +kernel
theorem dX0_field_12 : decode cX0_field 12 = .ok (.iconst 1, 1) := by decide +kernel
theorem dX0_field_13 : decode cX0_field 13 = .ok (.sipush 1024, 3) := by decide +kernel
theorem dX0_field_16 : decode cX0_field 16 = .ok (.invokestatic 17, 3) := by decide +kernel
theorem dX0_field_19 : decode cX0_field 19 = .ok (.ifCond .ne 13, 3) := by decide +kernel
theorem dX0_field_22 : decode cX0_field 22 = .ok (.new 21, 3) := by decide +kernel
theorem dX0_field_25 : decode cX0_field 25 = .ok (.dup, 1) := by decide +kernel
theorem dX0_field_26 : decode cX0_field 26 = .ok (.ldc 23, 2) := by decide +kernel
theorem dX0_field_28 : decode cX0_field 28 = .ok (.invokespecial 25, 3) := by decide +kernel
theorem dX0_field_31 : decode cX0_field 31 = .ok (.athrow, 1) := by decide +kernel
theorem dX0_field_32 : decode cX0_field 32 = .ok (.iload_n 3, 1) := by decide +kernel
theorem dX0_field_33 : decode cX0_field 33 = .ok (.invokestatic 28, 3) := by decide +kernel
theorem dX0_field_36 : decode cX0_field 36 = .ok (.istore 5, 2) := by decide +kernel
theorem dX0_field_38 : decode cX0_field 38 = .ok (.iload 5, 2) := by decide +kernel
theorem dX0_field_40 : decode cX0_field 40 = .ok (.iconst (-1), 1) := by decide +kernel
theorem dX0_field_41 : decode cX0_field 41 = .ok (.if_icmp .ne 13, 3) := by decide +kernel
theorem dX0_field_44 : decode cX0_field 44 = .ok (.new 21, 3) := by decide +kernel
theorem dX0_field_47 : decode cX0_field 47 = .ok (.dup, 1) := by decide +kernel
theorem dX0_field_48 : decode cX0_field 48 = .ok (.ldc 32, 2) := by decide +kernel
theorem dX0_field_50 : decode cX0_field 50 = .ok (.invokespecial 25, 3) := by decide +kernel
theorem dX0_field_53 : decode cX0_field 53 = .ok (.athrow, 1) := by decide +kernel
theorem dX0_field_54 : decode cX0_field 54 = .ok (.iload 4, 2) := by decide +kernel
theorem dX0_field_56 : decode cX0_field 56 = .ok (.iconst 1, 1) := by decide +kernel
theorem dX0_field_57 : decode cX0_field 57 = .ok (.sipush 8192, 3) := by decide +kernel
theorem dX0_field_60 : decode cX0_field 60 = .ok (.invokestatic 17, 3) := by decide +kernel
theorem dX0_field_63 : decode cX0_field 63 = .ok (.ifCond .ne 13, 3) := by decide +kernel
theorem dX0_field_66 : decode cX0_field 66 = .ok (.new 21, 3) := by decide +kernel
theorem dX0_field_69 : decode cX0_field 69 = .ok (.dup, 1) := by decide +kernel
theorem dX0_field_70 : decode cX0_field 70 = .ok (.ldc 34, 2) := by decide +kernel
theorem dX0_field_72 : decode cX0_field 72 = .ok (.invokespecial 25, 3) := by decide +kernel
theorem dX0_field_75 : decode cX0_field 75 = .ok (.athrow, 1) := by decide +kernel
theorem dX0_field_76 : decode cX0_field 76 = .ok (.aload_n 0, 1) := by decide +kernel
theorem dX0_field_77 : decode cX0_field 77 = .ok (.iload_n 1, 1) := by decide +kernel
theorem dX0_field_78 : decode cX0_field 78 = .ok (.iload_n 2, 1) := by decide +kernel
theorem dX0_field_79 : decode cX0_field 79 = .ok (.iload 5, 2) := by decide +kernel
theorem dX0_field_81 : decode cX0_field 81 = .ok (.iload 4, 2) := by decide +kernel
theorem dX0_field_83 : decode cX0_field 83 = .ok (.invokevirtual 13, 3) := by decide +kernel
theorem dX0_field_86 : decode cX0_field 86 = .ok (.aload_n 0, 1) := by decide +kernel
theorem dX0_field_87 : decode cX0_field 87 = .ok (.invokevirtual 36, 3) := by decide +kernel
theorem dX0_field_90 : decode cX0_field 90 = .ok (.ireturn, 1) := by decide +kernel
theorem dX0_put_0 : decode cX0_put 0 = .ok (.iload_n 1, 1) := by decide +kernel
theorem dX0_put_1 : decode cX0_put 1 = .ok (.iconst 0, 1) := by decide +kernel
theorem dX0_put_2 : decode cX0_put 2 = .ok (.invokestatic 40, 3) := by decide +kernel
theorem dX0_put_5 : decode cX0_put 5 = .ok (.istore 6, 2) := by decide +kernel
theorem dX0_put_7 : decode cX0_put 7 = .ok (.iload_n 2, 1) := by decide +kernel
theorem dX0_put_8 : decode cX0_put 8 = .ok (.iconst 0, 1) := by decide +kernel
theorem dX0_put_9 : decode cX0_put 9 = .ok (.invokestatic 40, 3) := by decide +kernel
theorem dX0_put_12 : decode cX0_put 12 = .ok (.istore 7, 2) := by decide +kernel
theorem dX0_put_14 : decode cX0_put 14 = .ok (.iload_n 3, 1) := by decide +kernel
theorem dX0_put_15 : decode cX0_put 15 = .ok (.aload_n 0, 1) := by decide +kernel
theorem dX0_put_16 : decode cX0_put 16 = .ok (.getfield 46, 3) := by decide +kernel
theorem dX0_put_19 : decode cX0_put 19 = .ok (.invokestatic 50, 3) := by decide +kernel
theorem dX0_put_22 : decode cX0_put 22 = .ok (.istore 8, 2) := by decide +kernel
theorem dX0_put_24 : decode cX0_put 24 = .ok (.iload 4, 2) := by decide +kernel
theorem dX0_put_26 : decode cX0_put 26 = .ok (.aload_n 0, 1) := by decide +kernel
theorem dX0_put_27 : decode cX0_put 27 = .ok (.getfield 53, 3) := by decide +kernel
theorem dX0_put_30 : decode cX0_put 30 = .ok (.invokestatic 50, 3) := by decide +kernel
theorem dX0_put_33 : decode cX0_put 33 = .ok (.istore 9, 2) := by decide +kernel
theorem dX0_put_35 : decode cX0_put 35 = .ok (.iload 6, 2) := by decide +kernel
theorem dX0_put_37 : decode cX0_put 37 = .ok (.iload 8, 2) := by decide +kernel
theorem dX0_put_39 : decode cX0_put 39 = .ok (.if_icmp .ge 14, 3) := by decide +kernel
theorem dX0_put_42 : decode cX0_put 42 = .ok (.iload 7, 2) := by decide +kernel
theorem dX0_put_44 : decode cX0_put 44 = .ok (.iload 9, 2) := by decide +kernel
theorem dX0_put_46 : decode cX0_put 46 = .ok (.if_icmp .ge 7, 3) := by decide +kernel
theorem dX0_put_49 : decode cX0_put 49 = .ok (.iconst 1, 1) := by decide +kernel
theorem dX0_put_50 : decode cX0_put 50 = .ok (.goto 4, 3) := by decide +kernel
theorem dX0_put_53 : decode cX0_put 53 = .ok (.iconst 0, 1) := by decide +kernel
theorem dX0_put_54 : decode cX0_put 54 = .ok (.istore 10, 2) := by decide +kernel
theorem dX0_put_56 : decode cX0_put 56 = .ok (.iload 10, 2) := by decide +kernel
theorem dX0_put_58 : decode cX0_put 58 = .ok (.ifCond .eq 23, 3) := by decide +kernel
theorem dX0_put_61 : decode cX0_put 61 = .ok (.aload_n 0, 1) := by decide +kernel
theorem dX0_put_62 : decode cX0_put 62 = .ok (.iload 6, 2) := by decide +kernel
theorem dX0_put_64 : decode cX0_put 64 = .ok (.iload 8, 2) := by decide +kernel
theorem dX0_put_66 : decode cX0_put 66 = .ok (.invokevirtual 56, 3) := by decide +kernel
theorem dX0_put_69 : decode cX0_put 69 = .ok (.aload_n 0, 1) := by decide +kernel
theorem dX0_put_70 : decode cX0_put 70 = .ok (.iload 7, 2) := by decide +kernel
theorem dX0_put_72 : decode cX0_put 72 = .ok (.iload 9, 2) := by decide +kernel
theorem dX0_put_74 : decode cX0_put 74 = .ok (.invokevirtual 56, 3) := by decide +kernel
theorem dX0_put_77 : decode cX0_put 77 = .ok (.imul, 1) := by decide +kernel
theorem dX0_put_78 : decode cX0_put 78 = .ok (.goto 4, 3) := by decide +kernel
theorem dX0_put_81 : decode cX0_put 81 = .ok (.iconst 0, 1) := by decide +kernel
theorem dX0_put_82 : decode cX0_put 82 = .ok (.istore 11, 2) := by decide +kernel
theorem dX0_put_84 : decode cX0_put 84 = .ok (.aload_n 0, 1) := by decide +kernel
theorem dX0_put_85 : decode cX0_put 85 = .ok (.getfield 59, 3) := by decide +kernel
theorem dX0_put_88 : decode cX0_put 88 = .ok (.sipush 4096, 3) := by decide +kernel
theorem dX0_put_91 : decode cX0_put 91 = .ok (.if_icmp .ge 17, 3) := by decide +kernel
theorem dX0_put_94 : decode cX0_put 94 = .ok (.iload 11, 2) := by decide +kernel
theorem dX0_put_96 : decode cX0_put 96 = .ok (.aload_n 0, 1) := by decide +kernel
theorem dX0_put_97 : decode cX0_put 97 = .ok (.getfield 62, 3) := by decide +kernel
theorem dX0_put_100 : decode cX0_put 100 = .ok (.aload_n 0, 1) := by decide +kernel
theorem dX0_put_101 : decode cX0_put 101 = .ok (.getfield 65, 3) := by decide +kernel
theorem dX0_put_104 : decode cX0_put 104 = .ok (.isub, 1) := by decide +kernel
theorem dX0_put_105 : decode cX0_put 105 = .ok (.if_icmp .le 13, 3) := by decide +kernel
theorem dX0_put_108 : decode cX0_put 108 = .ok (.new 68, 3) := by decide +kernel
theorem dX0_put_111 : decode cX0_put 111 = .ok (.dup, 1) := by decide +kernel
theorem dX0_put_112 : decode cX0_put 112 = .ok (.ldc 70, 2) := by decide +kernel
theorem dX0_put_114 : decode cX0_put 114 = .ok (.invokespecial 72, 3) := by decide +kernel
theorem dX0_put_117 : decode cX0_put 117 = .ok (.athrow, 1) := by decide +kernel
theorem dX0_put_118 : decode cX0_put 118 = .ok (.aload_n 0, 1) := by decide +kernel
theorem dX0_put_119 : decode cX0_put 119 = .ok (.invokevirtual 73, 3) := by decide +kernel
theorem dX0_put_122 : decode cX0_put 122 = .ok (.aload_n 0, 1) := by decide +kernel
theorem dX0_put_123 : decode cX0_put 123 = .ok (.getfield 59, 3) := by decide +kernel
theorem dX0_put_126 : decode cX0_put 126 = .ok (.bipush 6, 2) := by decide +kernel
theorem dX0_put_128 : decode cX0_put 128 = .ok (.imul, 1) := by decide +kernel
theorem dX0_put_129 : decode cX0_put 129 = .ok (.istore 12, 2) := by decide +kernel
theorem dX0_put_131 : decode cX0_put 131 = .ok (.aload_n 0, 1) := by decide +kernel
theorem dX0_put_132 : decode cX0_put 132 = .ok (.getfield 9, 3) := by decide +kernel
theorem dX0_put_135 : decode cX0_put 135 = .ok (.iload 12, 2) := by decide +kernel
theorem dX0_put_137 : decode cX0_put 137 = .ok (.iconst 0, 1) := by decide +kernel
theorem dX0_put_138 : decode cX0_put 138 = .ok (.iadd, 1) := by decide +kernel
theorem dX0_put_139 : decode cX0_put 139 = .ok (.iload 10, 2) := by decide +kernel
theorem dX0_put_141 : decode cX0_put 141 = .ok (.ifCond .eq 8, 3) := by decide +kernel
theorem dX0_put_144 : decode cX0_put 144 = .ok (.iload 6, 2) := by decide +kernel
theorem dX0_put_146 : decode cX0_put 146 = .ok (.goto 4, 3) := by decide +kernel
theorem dX0_put_149 : decode cX0_put 149 = .ok (.iconst 0, 1) := by decide +kernel
theorem dX0_put_150 : decode cX0_put 150 = .ok (.iastore, 1) := by decide +kernel
theorem dX0_put_151 : decode cX0_put 151 = .ok (.aload_n 0, 1) := by decide +kernel
theorem dX0_put_152 : decode cX0_put 152 = .ok (.getfield 9, 3) := by decide +kernel
theorem dX0_put_155 : decode cX0_put 155 = .ok (.iload 12, 2) := by decide +kernel
theorem dX0_put_157 : decode cX0_put 157 = .ok (.iconst 1, 1) := by decide +kernel
theorem dX0_put_158 : decode cX0_put 158 = .ok (.iadd, 1) := by decide +kernel
theorem dX0_put_159 : decode cX0_put 159 = .ok (.iload 10, 2) := by decide +kernel
theorem dX0_put_161 : decode cX0_put 161 = .ok (.ifCond .eq 8, 3) := by decide +kernel
theorem dX0_put_164 : decode cX0_put 164 = .ok (.iload 7, 2) := by decide +kernel
theorem dX0_put_166 : decode cX0_put 166 = .ok (.goto 4, 3) := by decide +kernel
theorem dX0_put_169 : decode cX0_put 169 = .ok (.iconst 0, 1) := by decide +kernel
theorem dX0_put_170 : decode cX0_put 170 = .ok (.iastore, 1) := by decide +kernel
theorem dX0_put_171 : decode cX0_put 171 = .ok (.aload_n 0, 1) := by decide +kernel
theorem dX0_put_172 : decode cX0_put 172 = .ok (.getfield 9, 3) := by decide +kernel
theorem dX0_put_175 : decode cX0_put 175 = .ok (.iload 12, 2) := by decide +kernel
theorem dX0_put_177 : decode cX0_put 177 = .ok (.iconst 2, 1) := by decide +kernel
theorem dX0_put_178 : decode cX0_put 178 = .ok (.iadd, 1) := by decide +kernel
theorem dX0_put_179 : decode cX0_put 179 = .ok (.iload 10, 2) := by decide +kernel
theorem dX0_put_181 : decode cX0_put 181 = .ok (.ifCond .eq 8, 3) := by decide +kernel
theorem dX0_put_184 : decode cX0_put 184 = .ok (.iload 8, 2) := by decide +kernel
theorem dX0_put_186 : decode cX0_put 186 = .ok (.goto 4, 3) := by decide +kernel
theorem dX0_put_189 : decode cX0_put 189 = .ok (.iconst 0, 1) := by decide +kernel
theorem dX0_put_190 : decode cX0_put 190 = .ok (.iastore, 1) := by decide +kernel
theorem dX0_put_191 : decode cX0_put 191 = .ok (.aload_n 0, 1) := by decide +kernel
theorem dX0_put_192 : decode cX0_put 192 = .ok (.getfield 9, 3) := by decide +kernel
theorem dX0_put_195 : decode cX0_put 195 = .ok (.iload 12, 2) := by decide +kernel
theorem dX0_put_197 : decode cX0_put 197 = .ok (.iconst 3, 1) := by decide +kernel
theorem dX0_put_198 : decode cX0_put 198 = .ok (.iadd, 1) := by decide +kernel
theorem dX0_put_199 : decode cX0_put 199 = .ok (.iload 10, 2) := by decide +kernel
theorem dX0_put_201 : decode cX0_put 201 = .ok (.ifCond .eq 8, 3) := by decide +kernel
theorem dX0_put_204 : decode cX0_put 204 = .ok (.iload 9, 2) := by decide +kernel
theorem dX0_put_206 : decode cX0_put 206 = .ok (.goto 4, 3) := by decide +kernel
theorem dX0_put_209 : decode cX0_put 209 = .ok (.iconst 0, 1) := by decide +kernel
theorem dX0_put_210 : decode cX0_put 210 = .ok (.iastore, 1) := by decide +kernel
theorem dX0_put_211 : decode cX0_put 211 = .ok (.aload_n 0, 1) := by decide +kernel
theorem dX0_put_212 : decode cX0_put 212 = .ok (.getfield 9, 3) := by decide +kernel
theorem dX0_put_215 : decode cX0_put 215 = .ok (.iload 12, 2) := by decide +kernel
theorem dX0_put_217 : decode cX0_put 217 = .ok (.iconst 4, 1) := by decide +kernel
theorem dX0_put_218 : decode cX0_put 218 = .ok (.iadd, 1) := by decide +kernel
theorem dX0_put_219 : decode cX0_put 219 = .ok (.iload 5, 2) := by decide +kernel
theorem dX0_put_221 : decode cX0_put 221 = .ok (.iastore, 1) := by decide +kernel
theorem dX0_put_222 : decode cX0_put 222 = .ok (.aload_n 0, 1) := by decide +kernel
theorem dX0_put_223 : decode cX0_put 223 = .ok (.getfield 9, 3) := by decide +kernel
theorem dX0_put_226 : decode cX0_put 226 = .ok (.iload 12, 2) := by decide +kernel
theorem dX0_put_228 : decode cX0_put 228 = .ok (.iconst 5, 1) := by decide +kernel
theorem dX0_put_229 : decode cX0_put 229 = .ok (.iadd, 1) := by decide +kernel
theorem dX0_put_230 : decode cX0_put 230 = .ok (.iload 11, 2) := by decide +kernel
theorem dX0_put_232 : decode cX0_put 232 = .ok (.iastore, 1) := by decide +kernel
theorem dX0_put_233 : decode cX0_put 233 = .ok (.aload_n 0, 1) := by decide +kernel
theorem dX0_put_234 : decode cX0_put 234 = .ok (.dup, 1) := by decide +kernel
theorem dX0_put_235 : decode cX0_put 235 = .ok (.getfield 59, 3) := by decide +kernel
theorem dX0_put_238 : decode cX0_put 238 = .ok (.iconst 1, 1) := by decide +kernel
theorem dX0_put_239 : decode cX0_put 239 = .ok (.iadd, 1) := by decide +kernel
theorem dX0_put_240 : decode cX0_put 240 = .ok (.putfield 59, 3) := by decide +kernel
theorem dX0_put_243 : decode cX0_put 243 = .ok (.aload_n 0, 1) := by decide +kernel
theorem dX0_put_244 : decode cX0_put 244 = .ok (.dup, 1) := by decide +kernel
theorem dX0_put_245 : decode cX0_put 245 = .ok (.getfield 65, 3) := by decide +kernel
theorem dX0_put_248 : decode cX0_put 248 = .ok (.iload 11, 2) := by decide +kernel
theorem dX0_put_250 : decode cX0_put 250 = .ok (.iadd, 1) := by decide +kernel
theorem dX0_put_251 : decode cX0_put 251 = .ok (.putfield 65, 3) := by decide +kernel
theorem dX0_put_254 : decode cX0_put 254 = .ok (.aload_n 0, 1) := by decide +kernel
theorem dX0_put_255 : decode cX0_put 255 = .ok (.getfield 59, 3) := by decide +kernel
theorem dX0_put_258 : decode cX0_put 258 = .ok (.iconst 1, 1) := by decide +kernel
theorem dX0_put_259 : decode cX0_put 259 = .ok (.isub, 1) := by decide +kernel
theorem dX0_put_260 : decode cX0_put 260 = .ok (.ireturn, 1) := by decide +kernel
theorem dX0_empty_0 : decode cX0_empty 0 = .ok (.aload_n 0, 1) := by decide +kernel
theorem dX0_empty_1 : decode cX0_empty 1 = .ok (.invokevirtual 76, 3) := by decide +kernel
theorem dX0_empty_4 : decode cX0_empty 4 = .ok (.return_, 1) := by decide +kernel
theorem dX0_open_0 : decode cX0_open 0 = .ok (.aload_n 0, 1) := by decide +kernel
theorem dX0_open_1 : decode cX0_open 1 = .ok (.iload_n 1, 1) := by decide +kernel
theorem dX0_open_2 : decode cX0_open 2 = .ok (.invokevirtual 79, 3) := by decide +kernel
theorem dX0_open_5 : decode cX0_open 5 = .ok (.ifCond .ne 13, 3) := by decide +kernel
theorem dX0_open_8 : decode cX0_open 8 = .ok (.new 21, 3) := by decide +kernel
theorem dX0_open_11 : decode cX0_open 11 = .ok (.dup, 1) := by decide +kernel
theorem dX0_open_12 : decode cX0_open 12 = .ok (.ldc 83, 2) := by decide +kernel
theorem dX0_open_14 : decode cX0_open 14 = .ok (.invokespecial 25, 3) := by decide +kernel
theorem dX0_open_17 : decode cX0_open 17 = .ok (.athrow, 1) := by decide +kernel
theorem dX0_open_18 : decode cX0_open 18 = .ok (.aload_n 0, 1) := by decide +kernel
theorem dX0_open_19 : decode cX0_open 19 = .ok (.iload_n 1, 1) := by decide +kernel
theorem dX0_open_20 : decode cX0_open 20 = .ok (.putfield 85, 3) := by decide +kernel
theorem dX0_open_23 : decode cX0_open 23 = .ok (.aload_n 0, 1) := by decide +kernel
theorem dX0_open_24 : decode cX0_open 24 = .ok (.iconst 0, 1) := by decide +kernel
theorem dX0_open_25 : decode cX0_open 25 = .ok (.putfield 88, 3) := by decide +kernel
theorem dX0_open_28 : decode cX0_open 28 = .ok (.aload_n 0, 1) := by decide +kernel
theorem dX0_open_29 : decode cX0_open 29 = .ok (.iload_n 1, 1) := by decide +kernel
theorem dX0_open_30 : decode cX0_open 30 = .ok (.invokevirtual 91, 3) := by decide +kernel
theorem dX0_open_33 : decode cX0_open 33 = .ok (.ireturn, 1) := by decide +kernel
theorem dX0_next_0 : decode cX0_next 0 = .ok (.aload_n 0, 1) := by decide +kernel
theorem dX0_next_1 : decode cX0_next 1 = .ok (.getfield 85, 3) := by decide +kernel
theorem dX0_next_4 : decode cX0_next 4 = .ok (.iconst (-1), 1) := by decide +kernel
theorem dX0_next_5 : decode cX0_next 5 = .ok (.if_icmp .ne 13, 3) := by decide +kernel
theorem dX0_next_8 : decode cX0_next 8 = .ok (.new 68, 3) := by decide +kernel
theorem dX0_next_11 : decode cX0_next 11 = .ok (.dup, 1) := by decide +kernel
theorem dX0_next_12 : decode cX0_next 12 = .ok (.ldc 94, 2) := by decide +kernel
theorem dX0_next_14 : decode cX0_next 14 = .ok (.invokespecial 72, 3) := by decide +kernel
theorem dX0_next_17 : decode cX0_next 17 = .ok (.athrow, 1) := by decide +kernel
theorem dX0_next_18 : decode cX0_next 18 = .ok (.aload_n 0, 1) := by decide +kernel
theorem dX0_next_19 : decode cX0_next 19 = .ok (.aload_n 0, 1) := by decide +kernel
theorem dX0_next_20 : decode cX0_next 20 = .ok (.getfield 85, 3) := by decide +kernel
theorem dX0_next_23 : decode cX0_next 23 = .ok (.aload_n 0, 1) := by decide +kernel
theorem dX0_next_24 : decode cX0_next 24 = .ok (.getfield 88, 3) := by decide +kernel
theorem dX0_next_27 : decode cX0_next 27 = .ok (.invokevirtual 96, 3) := by decide +kernel
theorem dX0_next_30 : decode cX0_next 30 = .ok (.istore_n 1, 1) := by decide +kernel
theorem dX0_next_31 : decode cX0_next 31 = .ok (.aload_n 0, 1) := by decide +kernel
theorem dX0_next_32 : decode cX0_next 32 = .ok (.iload_n 1, 1) := by decide +kernel
theorem dX0_next_33 : decode cX0_next 33 = .ok (.iconst (-1), 1) := by decide +kernel
theorem dX0_next_34 : decode cX0_next 34 = .ok (.if_icmp .ne 10, 3) := by decide +kernel
theorem dX0_next_37 : decode cX0_next 37 = .ok (.aload_n 0, 1) := by decide +kernel
theorem dX0_next_38 : decode cX0_next 38 = .ok (.getfield 59, 3) := by decide +kernel
theorem dX0_next_41 : decode cX0_next 41 = .ok (.goto 6, 3) := by decide +kernel
theorem dX0_next_44 : decode cX0_next 44 = .ok (.iload_n 1, 1) := by decide +kernel
theorem dX0_next_45 : decode cX0_next 45 = .ok (.iconst 1, 1) := by decide +kernel
theorem dX0_next_46 : decode cX0_next 46 = .ok (.iadd, 1) := by decide +kernel
theorem dX0_next_47 : decode cX0_next 47 = .ok (.putfield 88, 3) := by decide +kernel
theorem dX0_next_50 : decode cX0_next 50 = .ok (.iload_n 1, 1) := by decide +kernel
theorem dX0_next_51 : decode cX0_next 51 = .ok (.ireturn, 1) := by decide +kernel
theorem dX0_item_0 : decode cX0_item 0 = .ok (.iload_n 1, 1) := by decide +kernel
theorem dX0_item_1 : decode cX0_item 1 = .ok (.ifCond .lt 11, 3) := by decide +kernel
theorem dX0_item_4 : decode cX0_item 4 = .ok (.iload_n 1, 1) := by decide +kernel
theorem dX0_item_5 : decode cX0_item 5 = .ok (.aload_n 0, 1) := by decide +kernel
theorem dX0_item_6 : decode cX0_item 6 = .ok (.getfield 59, 3) := by decide +kernel
theorem dX0_item_9 : decode cX0_item 9 = .ok (.if_icmp .lt 13, 3) := by decide +kernel
theorem dX0_item_12 : decode cX0_item 12 = .ok (.new 99, 3) := by decide +kernel
theorem dX0_item_15 : decode cX0_item 15 = .ok (.dup, 1) := by decide +kernel
theorem dX0_item_16 : decode cX0_item 16 = .ok (.ldc 101, 2) := by decide +kernel
theorem dX0_item_18 : decode cX0_item 18 = .ok (.invokespecial 103, 3) := by decide +kernel
theorem dX0_item_21 : decode cX0_item 21 = .ok (.athrow, 1) := by decide +kernel
theorem dX0_item_22 : decode cX0_item 22 = .ok (.iload_n 2, 1) := by decide +kernel
theorem dX0_item_23 : decode cX0_item 23 = .ok (.ifCond .lt 9, 3) := by decide +kernel
theorem dX0_item_26 : decode cX0_item 26 = .ok (.iload_n 2, 1) := by decide +kernel
theorem dX0_item_27 : decode cX0_item 27 = .ok (.bipush 6, 2) := by decide +kernel
theorem dX0_item_29 : decode cX0_item 29 = .ok (.if_icmp .lt 13, 3) := by decide +kernel
theorem dX0_item_32 : decode cX0_item 32 = .ok (.new 21, 3) := by decide +kernel
theorem dX0_item_35 : decode cX0_item 35 = .ok (.dup, 1) := by decide +kernel
theorem dX0_item_36 : decode cX0_item 36 = .ok (.ldc 104, 2) := by decide +kernel
theorem dX0_item_38 : decode cX0_item 38 = .ok (.invokespecial 25, 3) := by decide +kernel
theorem dX0_item_41 : decode cX0_item 41 = .ok (.athrow, 1) := by decide +kernel
theorem dX0_item_42 : decode cX0_item 42 = .ok (.aload_n 0, 1) := by decide +kernel
theorem dX0_item_43 : decode cX0_item 43 = .ok (.getfield 9, 3) := by decide +kernel
theorem dX0_item_46 : decode cX0_item 46 = .ok (.iload_n 1, 1) := by decide +kernel
theorem dX0_item_47 : decode cX0_item 47 = .ok (.bipush 6, 2) := by decide +kernel
theorem dX0_item_49 : decode cX0_item 49 = .ok (.imul, 1) := by decide +kernel
theorem dX0_item_50 : decode cX0_item 50 = .ok (.iload_n 2, 1) := by decide +kernel
theorem dX0_item_51 : decode cX0_item 51 = .ok (.iadd, 1) := by decide +kernel
theorem dX0_item_52 : decode cX0_item 52 = .ok (.iaload, 1) := by decide +kernel
theorem dX0_item_53 : decode cX0_item 53 = .ok (.ireturn, 1) := by decide +kernel
theorem dX0_tile_0 : decode cX0_tile 0 = .ok (.aload_n 0, 1) := by decide +kernel
theorem dX0_tile_1 : decode cX0_tile 1 = .ok (.iload_n 1, 1) := by decide +kernel
theorem dX0_tile_2 : decode cX0_tile 2 = .ok (.invokevirtual 79, 3) := by decide +kernel
theorem dX0_tile_5 : decode cX0_tile 5 = .ok (.ifCond .ne 13, 3) := by decide +kernel
theorem dX0_tile_8 : decode cX0_tile 8 = .ok (.new 21, 3) := by decide +kernel
theorem dX0_tile_11 : decode cX0_tile 11 = .ok (.dup, 1) := by decide +kernel
theorem dX0_tile_12 : decode cX0_tile 12 = .ok (.ldc 83, 2) := by decide +kernel
theorem dX0_tile_14 : decode cX0_tile 14 = .ok (.invokespecial 25, 3) := by decide +kernel
theorem dX0_tile_17 : decode cX0_tile 17 = .ok (.athrow, 1) := by decide +kernel
theorem dX0_tile_18 : decode cX0_tile 18 = .ok (.iload_n 2, 1) := by decide +kernel
theorem dX0_tile_19 : decode cX0_tile 19 = .ok (.tableswitch 87 0 4 #[33, 39, 45, 63, 81], 33) := by decide +kernel
theorem dX0_tile_52 : decode cX0_tile 52 = .ok (.aload_n 0, 1) := by decide +kernel
theorem dX0_tile_53 : decode cX0_tile 53 = .ok (.iload_n 1, 1) := by decide +kernel
theorem dX0_tile_54 : decode cX0_tile 54 = .ok (.invokevirtual 106, 3) := by decide +kernel
theorem dX0_tile_57 : decode cX0_tile 57 = .ok (.ireturn, 1) := by decide +kernel
theorem dX0_tile_58 : decode cX0_tile 58 = .ok (.aload_n 0, 1) := by decide +kernel
theorem dX0_tile_59 : decode cX0_tile 59 = .ok (.iload_n 1, 1) := by decide +kernel
theorem dX0_tile_60 : decode cX0_tile 60 = .ok (.invokevirtual 109, 3) := by decide +kernel
theorem dX0_tile_63 : decode cX0_tile 63 = .ok (.ireturn, 1) := by decide +kernel
theorem dX0_tile_64 : decode cX0_tile 64 = .ok (.aload_n 0, 1) := by decide +kernel
theorem dX0_tile_65 : decode cX0_tile 65 = .ok (.iload_n 1, 1) := by decide +kernel
theorem dX0_tile_66 : decode cX0_tile 66 = .ok (.invokevirtual 106, 3) := by decide +kernel
theorem dX0_tile_69 : decode cX0_tile 69 = .ok (.aload_n 0, 1) := by decide +kernel
theorem dX0_tile_70 : decode cX0_tile 70 = .ok (.invokevirtual 112, 3) := by decide +kernel
theorem dX0_tile_73 : decode cX0_tile 73 = .ok (.iadd, 1) := by decide +kernel
theorem dX0_tile_74 : decode cX0_tile 74 = .ok (.aload_n 0, 1) := by decide +kernel
theorem dX0_tile_75 : decode cX0_tile 75 = .ok (.getfield 46, 3) := by decide +kernel
theorem dX0_tile_78 : decode cX0_tile 78 = .ok (.invokestatic 50, 3) := by decide +kernel
theorem dX0_tile_81 : decode cX0_tile 81 = .ok (.ireturn, 1) := by decide +kernel
theorem dX0_tile_82 : decode cX0_tile 82 = .ok (.aload_n 0, 1) := by decide +kernel
theorem dX0_tile_83 : decode cX0_tile 83 = .ok (.iload_n 1, 1) := by decide +kernel
theorem dX0_tile_84 : decode cX0_tile 84 = .ok (.invokevirtual 109, 3) := by decide +kernel
theorem dX0_tile_87 : decode cX0_tile 87 = .ok (.aload_n 0, 1) := by decide +kernel
theorem dX0_tile_88 : decode cX0_tile 88 = .ok (.invokevirtual 112, 3) := by decide +kernel
theorem dX0_tile_91 : decode cX0_tile 91 = .ok (.iadd, 1) := by decide +kernel
theorem dX0_tile_92 : decode cX0_tile 92 = .ok (.aload_n 0, 1) := by decide +kernel
theorem dX0_tile_93 : decode cX0_tile 93 = .ok (.getfield 53, 3) := by decide +kernel
theorem dX0_tile_96 : decode cX0_tile 96 = .ok (.invokestatic 50, 3) := by decide +kernel
theorem dX0_tile_99 : decode cX0_tile 99 = .ok (.ireturn, 1) := by decide +kernel
theorem dX0_tile_100 : decode cX0_tile 100 = .ok (.aload_n 0, 1) := by decide +kernel
theorem dX0_tile_101 : decode cX0_tile 101 = .ok (.iload_n 1, 1) := by decide +kernel
theorem dX0_tile_102 : decode cX0_tile 102 = .ok (.invokevirtual 91, 3) := by decide +kernel
theorem dX0_tile_105 : decode cX0_tile 105 = .ok (.ireturn, 1) := by decide +kernel
theorem dX0_tile_106 : decode cX0_tile 106 = .ok (.new 21, 3) := by decide +kernel
theorem dX0_tile_109 : decode cX0_tile 109 = .ok (.dup, 1) := by decide +kernel
theorem dX0_tile_110 : decode cX0_tile 110 = .ok (.ldc 115, 2) := by decide +kernel
theorem dX0_tile_112 : decode cX0_tile 112 = .ok (.invokespecial 25, 3) := by decide +kernel
theorem dX0_tile_115 : decode cX0_tile 115 = .ok (.athrow, 1) := by decide +kernel
theorem dX0_tileOf_0 : decode cX0_tileOf 0 = .ok (.iload_n 1, 1) := by decide +kernel
theorem dX0_tileOf_1 : decode cX0_tileOf 1 = .ok (.ifCond .lt 23, 3) := by decide +kernel
theorem dX0_tileOf_4 : decode cX0_tileOf 4 = .ok (.iload_n 1, 1) := by decide +kernel
theorem dX0_tileOf_5 : decode cX0_tileOf 5 = .ok (.aload_n 0, 1) := by decide +kernel
theorem dX0_tileOf_6 : decode cX0_tileOf 6 = .ok (.getfield 46, 3) := by decide +kernel
theorem dX0_tileOf_9 : decode cX0_tileOf 9 = .ok (.if_icmp .ge 15, 3) := by decide +kernel
theorem dX0_tileOf_12 : decode cX0_tileOf 12 = .ok (.iload_n 2, 1) := by decide +kernel
theorem dX0_tileOf_13 : decode cX0_tileOf 13 = .ok (.ifCond .lt 11, 3) := by decide +kernel
theorem dX0_tileOf_16 : decode cX0_tileOf 16 = .ok (.iload_n 2, 1) := by decide +kernel
theorem dX0_tileOf_17 : decode cX0_tileOf 17 = .ok (.aload_n 0, 1) := by decide +kernel
theorem dX0_tileOf_18 : decode cX0_tileOf 18 = .ok (.getfield 53, 3) := by decide +kernel
theorem dX0_tileOf_21 : decode cX0_tileOf 21 = .ok (.if_icmp .lt 13, 3) := by decide +kernel
theorem dX0_tileOf_24 : decode cX0_tileOf 24 = .ok (.new 21, 3) := by decide +kernel
theorem dX0_tileOf_27 : decode cX0_tileOf 27 = .ok (.dup, 1) := by decide +kernel
theorem dX0_tileOf_28 : decode cX0_tileOf 28 = .ok (.ldc 117, 2) := by decide +kernel
theorem dX0_tileOf_30 : decode cX0_tileOf 30 = .ok (.invokespecial 25, 3) := by decide +kernel
theorem dX0_tileOf_33 : decode cX0_tileOf 33 = .ok (.athrow, 1) := by decide +kernel
theorem dX0_tileOf_34 : decode cX0_tileOf 34 = .ok (.iload_n 2, 1) := by decide +kernel
theorem dX0_tileOf_35 : decode cX0_tileOf 35 = .ok (.aload_n 0, 1) := by decide +kernel
theorem dX0_tileOf_36 : decode cX0_tileOf 36 = .ok (.getfield 119, 3) := by decide +kernel
theorem dX0_tileOf_39 : decode cX0_tileOf 39 = .ok (.ishr, 1) := by decide +kernel
theorem dX0_tileOf_40 : decode cX0_tileOf 40 = .ok (.aload_n 0, 1) := by decide +kernel
theorem dX0_tileOf_41 : decode cX0_tileOf 41 = .ok (.getfield 122, 3) := by decide +kernel
theorem dX0_tileOf_44 : decode cX0_tileOf 44 = .ok (.imul, 1) := by decide +kernel
theorem dX0_tileOf_45 : decode cX0_tileOf 45 = .ok (.iload_n 1, 1) := by decide +kernel
theorem dX0_tileOf_46 : decode cX0_tileOf 46 = .ok (.aload_n 0, 1) := by decide +kernel
theorem dX0_tileOf_47 : decode cX0_tileOf 47 = .ok (.getfield 119, 3) := by decide +kernel
theorem dX0_tileOf_50 : decode cX0_tileOf 50 = .ok (.ishr, 1) := by decide +kernel
theorem dX0_tileOf_51 : decode cX0_tileOf 51 = .ok (.iadd, 1) := by decide +kernel
theorem dX0_tileOf_52 : decode cX0_tileOf 52 = .ok (.ireturn, 1) := by decide +kernel
theorem dX0_count_0 : decode cX0_count 0 = .ok (.iload_n 1, 1) := by decide +kernel
theorem dX0_count_1 : decode cX0_count 1 = .ok (.tableswitch 60 0 4 #[35, 40, 45, 50, 55], 35) := by decide +kernel
theorem dX0_count_36 : decode cX0_count 36 = .ok (.aload_n 0, 1) := by decide +kernel
theorem dX0_count_37 : decode cX0_count 37 = .ok (.getfield 59, 3) := by decide +kernel
theorem dX0_count_40 : decode cX0_count 40 = .ok (.ireturn, 1) := by decide +kernel
theorem dX0_count_41 : decode cX0_count 41 = .ok (.aload_n 0, 1) := by decide +kernel
theorem dX0_count_42 : decode cX0_count 42 = .ok (.getfield 65, 3) := by decide +kernel
theorem dX0_count_45 : decode cX0_count 45 = .ok (.ireturn, 1) := by decide +kernel
theorem dX0_count_46 : decode cX0_count 46 = .ok (.aload_n 0, 1) := by decide +kernel
theorem dX0_count_47 : decode cX0_count 47 = .ok (.getfield 62, 3) := by decide +kernel
theorem dX0_count_50 : decode cX0_count 50 = .ok (.ireturn, 1) := by decide +kernel
theorem dX0_count_51 : decode cX0_count 51 = .ok (.aload_n 0, 1) := by decide +kernel
theorem dX0_count_52 : decode cX0_count 52 = .ok (.invokevirtual 36, 3) := by decide +kernel
theorem dX0_count_55 : decode cX0_count 55 = .ok (.ireturn, 1) := by decide +kernel
theorem dX0_count_56 : decode cX0_count 56 = .ok (.aload_n 0, 1) := by decide +kernel
theorem dX0_count_57 : decode cX0_count 57 = .ok (.getfield 85, 3) := by decide +kernel
theorem dX0_count_60 : decode cX0_count 60 = .ok (.ireturn, 1) := by decide +kernel
theorem dX0_count_61 : decode cX0_count 61 = .ok (.new 21, 3) := by decide +kernel
theorem dX0_count_64 : decode cX0_count 64 = .ok (.dup, 1) := by decide +kernel
theorem dX0_count_65 : decode cX0_count 65 = .ok (.ldc 125, 2) := by decide +kernel
theorem dX0_count_67 : decode cX0_count 67 = .ok (.invokespecial 25, 3) := by decide +kernel
theorem dX0_count_70 : decode cX0_count 70 = .ok (.athrow, 1) := by decide +kernel
theorem dX0_layOut_0 : decode cX0_layOut 0 = .ok (.aload_n 0, 1) := by decide +kernel
theorem dX0_layOut_1 : decode cX0_layOut 1 = .ok (.iload_n 1, 1) := by decide +kernel
theorem dX0_layOut_2 : decode cX0_layOut 2 = .ok (.putfield 46, 3) := by decide +kernel
theorem dX0_layOut_5 : decode cX0_layOut 5 = .ok (.aload_n 0, 1) := by decide +kernel
theorem dX0_layOut_6 : decode cX0_layOut 6 = .ok (.iload_n 2, 1) := by decide +kernel
theorem dX0_layOut_7 : decode cX0_layOut 7 = .ok (.putfield 53, 3) := by decide +kernel
theorem dX0_layOut_10 : decode cX0_layOut 10 = .ok (.aload_n 0, 1) := by decide +kernel
theorem dX0_layOut_11 : decode cX0_layOut 11 = .ok (.iload_n 3, 1) := by decide +kernel
theorem dX0_layOut_12 : decode cX0_layOut 12 = .ok (.putfield 119, 3) := by decide +kernel
theorem dX0_layOut_15 : decode cX0_layOut 15 = .ok (.aload_n 0, 1) := by decide +kernel
theorem dX0_layOut_16 : decode cX0_layOut 16 = .ok (.aload_n 0, 1) := by decide +kernel
theorem dX0_layOut_17 : decode cX0_layOut 17 = .ok (.iconst 0, 1) := by decide +kernel
theorem dX0_layOut_18 : decode cX0_layOut 18 = .ok (.iload_n 1, 1) := by decide +kernel
theorem dX0_layOut_19 : decode cX0_layOut 19 = .ok (.invokevirtual 56, 3) := by decide +kernel
theorem dX0_layOut_22 : decode cX0_layOut 22 = .ok (.putfield 122, 3) := by decide +kernel
theorem dX0_layOut_25 : decode cX0_layOut 25 = .ok (.aload_n 0, 1) := by decide +kernel
theorem dX0_layOut_26 : decode cX0_layOut 26 = .ok (.aload_n 0, 1) := by decide +kernel
theorem dX0_layOut_27 : decode cX0_layOut 27 = .ok (.iconst 0, 1) := by decide +kernel
theorem dX0_layOut_28 : decode cX0_layOut 28 = .ok (.iload_n 2, 1) := by decide +kernel
theorem dX0_layOut_29 : decode cX0_layOut 29 = .ok (.invokevirtual 56, 3) := by decide +kernel
theorem dX0_layOut_32 : decode cX0_layOut 32 = .ok (.putfield 127, 3) := by decide +kernel
theorem dX0_layOut_35 : decode cX0_layOut 35 = .ok (.aload_n 0, 1) := by decide +kernel
theorem dX0_layOut_36 : decode cX0_layOut 36 = .ok (.iload 4, 2) := by decide +kernel
theorem dX0_layOut_38 : decode cX0_layOut 38 = .ok (.putfield 62, 3) := by decide +kernel
theorem dX0_layOut_41 : decode cX0_layOut 41 = .ok (.aload_n 0, 1) := by decide +kernel
theorem dX0_layOut_42 : decode cX0_layOut 42 = .ok (.invokevirtual 76, 3) := by decide +kernel
theorem dX0_layOut_45 : decode cX0_layOut 45 = .ok (.return_, 1) := by decide +kernel
theorem dX0_takeAllOut_0 : decode cX0_takeAllOut 0 = .ok (.aload_n 0, 1) := by decide +kernel
theorem dX0_takeAllOut_1 : decode cX0_takeAllOut 1 = .ok (.iconst 0, 1) := by decide +kernel
theorem dX0_takeAllOut_2 : decode cX0_takeAllOut 2 = .ok (.putfield 59, 3) := by decide +kernel
theorem dX0_takeAllOut_5 : decode cX0_takeAllOut 5 = .ok (.aload_n 0, 1) := by decide +kernel
theorem dX0_takeAllOut_6 : decode cX0_takeAllOut 6 = .ok (.iconst 0, 1) := by decide +kernel
theorem dX0_takeAllOut_7 : decode cX0_takeAllOut 7 = .ok (.putfield 65, 3) := by decide +kernel
theorem dX0_takeAllOut_10 : decode cX0_takeAllOut 10 = .ok (.aload_n 0, 1) := by decide +kernel
theorem dX0_takeAllOut_11 : decode cX0_takeAllOut 11 = .ok (.iconst (-1), 1) := by decide +kernel
theorem dX0_takeAllOut_12 : decode cX0_takeAllOut 12 = .ok (.putfield 85, 3) := by decide +kernel
theorem dX0_takeAllOut_15 : decode cX0_takeAllOut 15 = .ok (.aload_n 0, 1) := by decide +kernel
theorem dX0_takeAllOut_16 : decode cX0_takeAllOut 16 = .ok (.iconst 0, 1) := by decide +kernel
theorem dX0_takeAllOut_17 : decode cX0_takeAllOut 17 = .ok (.putfield 88, 3) := by decide +kernel
theorem dX0_takeAllOut_20 : decode cX0_takeAllOut 20 = .ok (.return_, 1) := by decide +kernel
theorem dX0_makeRoom_0 : decode cX0_makeRoom 0 = .ok (.aload_n 0, 1) := by decide +kernel
theorem dX0_makeRoom_1 : decode cX0_makeRoom 1 = .ok (.getfield 59, 3) := by decide +kernel
theorem dX0_makeRoom_4 : decode cX0_makeRoom 4 = .ok (.iconst 1, 1) := by decide +kernel
theorem dX0_makeRoom_5 : decode cX0_makeRoom 5 = .ok (.iadd, 1) := by decide +kernel
theorem dX0_makeRoom_6 : decode cX0_makeRoom 6 = .ok (.bipush 6, 2) := by decide +kernel
theorem dX0_makeRoom_8 : decode cX0_makeRoom 8 = .ok (.imul, 1) := by decide +kernel
theorem dX0_makeRoom_9 : decode cX0_makeRoom 9 = .ok (.aload_n 0, 1) := by decide +kernel
theorem dX0_makeRoom_10 : decode cX0_makeRoom 10 = .ok (.getfield 9, 3) := by decide +kernel
theorem dX0_makeRoom_13 : decode cX0_makeRoom 13 = .ok (.arraylength, 1) := by decide +kernel
theorem dX0_makeRoom_14 : decode cX0_makeRoom 14 = .ok (.if_icmp .le 21, 3) := by decide +kernel
theorem dX0_makeRoom_17 : decode cX0_makeRoom 17 = .ok (.aload_n 0, 1) := by decide +kernel
theorem dX0_makeRoom_18 : decode cX0_makeRoom 18 = .ok (.aload_n 0, 1) := by decide +kernel
theorem dX0_makeRoom_19 : decode cX0_makeRoom 19 = .ok (.getfield 9, 3) := by decide +kernel
theorem dX0_makeRoom_22 : decode cX0_makeRoom 22 = .ok (.iconst 2, 1) := by decide +kernel
theorem dX0_makeRoom_23 : decode cX0_makeRoom 23 = .ok (.aload_n 0, 1) := by decide +kernel
theorem dX0_makeRoom_24 : decode cX0_makeRoom 24 = .ok (.getfield 9, 3) := by decide +kernel
theorem dX0_makeRoom_27 : decode cX0_makeRoom 27 = .ok (.arraylength, 1) := by decide +kernel
theorem dX0_makeRoom_28 : decode cX0_makeRoom 28 = .ok (.imul, 1) := by decide +kernel
theorem dX0_makeRoom_29 : decode cX0_makeRoom 29 = .ok (.invokestatic 130, 3) := by decide +kernel
theorem dX0_makeRoom_32 : decode cX0_makeRoom 32 = .ok (.putfield 9, 3) := by decide +kernel
theorem dX0_makeRoom_35 : decode cX0_makeRoom 35 = .ok (.return_, 1) := by decide +kernel
theorem dX0_tilesAcross_0 : decode cX0_tilesAcross 0 = .ok (.iload_n 2, 1) := by decide +kernel
theorem dX0_tilesAcross_1 : decode cX0_tilesAcross 1 = .ok (.iconst 1, 1) := by decide +kernel
theorem dX0_tilesAcross_2 : decode cX0_tilesAcross 2 = .ok (.isub, 1) := by decide +kernel
theorem dX0_tilesAcross_3 : decode cX0_tilesAcross 3 = .ok (.aload_n 0, 1) := by decide +kernel
theorem dX0_tilesAcross_4 : decode cX0_tilesAcross 4 = .ok (.getfield 119, 3) := by decide +kernel
theorem dX0_tilesAcross_7 : decode cX0_tilesAcross 7 = .ok (.ishr, 1) := by decide +kernel
theorem dX0_tilesAcross_8 : decode cX0_tilesAcross 8 = .ok (.iload_n 1, 1) := by decide +kernel
theorem dX0_tilesAcross_9 : decode cX0_tilesAcross 9 = .ok (.aload_n 0, 1) := by decide +kernel
theorem dX0_tilesAcross_10 : decode cX0_tilesAcross 10 = .ok (.getfield 119, 3) := by decide +kernel
theorem dX0_tilesAcross_13 : decode cX0_tilesAcross 13 = .ok (.ishr, 1) := by decide +kernel
theorem dX0_tilesAcross_14 : decode cX0_tilesAcross 14 = .ok (.isub, 1) := by decide +kernel
theorem dX0_tilesAcross_15 : decode cX0_tilesAcross 15 = .ok (.iconst 1, 1) := by decide +kernel
theorem dX0_tilesAcross_16 : decode cX0_tilesAcross 16 = .ok (.iadd, 1) := by decide +kernel
theorem dX0_tilesAcross_17 : decode cX0_tilesAcross 17 = .ok (.ireturn, 1) := by decide +kernel
theorem dX0_tilesInAll_0 : decode cX0_tilesInAll 0 = .ok (.aload_n 0, 1) := by decide +kernel
theorem dX0_tilesInAll_1 : decode cX0_tilesInAll 1 = .ok (.getfield 122, 3) := by decide +kernel
theorem dX0_tilesInAll_4 : decode cX0_tilesInAll 4 = .ok (.aload_n 0, 1) := by decide +kernel
theorem dX0_tilesInAll_5 : decode cX0_tilesInAll 5 = .ok (.getfield 127, 3) := by decide +kernel
theorem dX0_tilesInAll_8 : decode cX0_tilesInAll 8 = .ok (.imul, 1) := by decide +kernel
theorem dX0_tilesInAll_9 : decode cX0_tilesInAll 9 = .ok (.ireturn, 1) := by decide +kernel
theorem dX0_isTile_0 : decode cX0_isTile 0 = .ok (.iload_n 1, 1) := by decide +kernel
theorem dX0_isTile_1 : decode cX0_isTile 1 = .ok (.ifCond .lt 15, 3) := by decide +kernel
theorem dX0_isTile_4 : decode cX0_isTile 4 = .ok (.iload_n 1, 1) := by decide +kernel
theorem dX0_isTile_5 : decode cX0_isTile 5 = .ok (.aload_n 0, 1) := by decide +kernel
theorem dX0_isTile_6 : decode cX0_isTile 6 = .ok (.invokevirtual 36, 3) := by decide +kernel
theorem dX0_isTile_9 : decode cX0_isTile 9 = .ok (.if_icmp .ge 7, 3) := by decide +kernel
theorem dX0_isTile_12 : decode cX0_isTile 12 = .ok (.iconst 1, 1) := by decide +kernel
theorem dX0_isTile_13 : decode cX0_isTile 13 = .ok (.goto 4, 3) := by decide +kernel
theorem dX0_isTile_16 : decode cX0_isTile 16 = .ok (.iconst 0, 1) := by decide +kernel
theorem dX0_isTile_17 : decode cX0_isTile 17 = .ok (.ireturn, 1) := by decide +kernel
theorem dX0_sideLength_0 : decode cX0_sideLength 0 = .ok (.iconst 1, 1) := by decide +kernel
theorem dX0_sideLength_1 : decode cX0_sideLength 1 = .ok (.aload_n 0, 1) := by decide +kernel
theorem dX0_sideLength_2 : decode cX0_sideLength 2 = .ok (.getfield 119, 3) := by decide +kernel
theorem dX0_sideLength_5 : decode cX0_sideLength 5 = .ok (.ishl, 1) := by decide +kernel
theorem dX0_sideLength_6 : decode cX0_sideLength 6 = .ok (.ireturn, 1) := by decide +kernel
theorem dX0_leftOf_0 : decode cX0_leftOf 0 = .ok (.aload_n 0, 1) := by decide +kernel
theorem dX0_leftOf_1 : decode cX0_leftOf 1 = .ok (.getfield 122, 3) := by decide +kernel
theorem dX0_leftOf_4 : decode cX0_leftOf 4 = .ok (.ifCond .le 17, 3) := by decide +kernel
theorem dX0_leftOf_7 : decode cX0_leftOf 7 = .ok (.iload_n 1, 1) := by decide +kernel
theorem dX0_leftOf_8 : decode cX0_leftOf 8 = .ok (.aload_n 0, 1) := by decide +kernel
theorem dX0_leftOf_9 : decode cX0_leftOf 9 = .ok (.getfield 122, 3) := by decide +kernel
theorem dX0_leftOf_12 : decode cX0_leftOf 12 = .ok (.irem, 1) := by decide +kernel
theorem dX0_leftOf_13 : decode cX0_leftOf 13 = .ok (.aload_n 0, 1) := by decide +kernel
theorem dX0_leftOf_14 : decode cX0_leftOf 14 = .ok (.getfield 119, 3) := by decide +kernel
theorem dX0_leftOf_17 : decode cX0_leftOf 17 = .ok (.ishl, 1) := by decide +kernel
theorem dX0_leftOf_18 : decode cX0_leftOf 18 = .ok (.goto 4, 3) := by decide +kernel
theorem dX0_leftOf_21 : decode cX0_leftOf 21 = .ok (.iconst 0, 1) := by decide +kernel
theorem dX0_leftOf_22 : decode cX0_leftOf 22 = .ok (.ireturn, 1) := by decide +kernel
theorem dX0_topOf_0 : decode cX0_topOf 0 = .ok (.aload_n 0, 1) := by decide +kernel
theorem dX0_topOf_1 : decode cX0_topOf 1 = .ok (.getfield 122, 3) := by decide +kernel
theorem dX0_topOf_4 : decode cX0_topOf 4 = .ok (.ifCond .le 17, 3) := by decide +kernel
theorem dX0_topOf_7 : decode cX0_topOf 7 = .ok (.iload_n 1, 1) := by decide +kernel
theorem dX0_topOf_8 : decode cX0_topOf 8 = .ok (.aload_n 0, 1) := by decide +kernel
theorem dX0_topOf_9 : decode cX0_topOf 9 = .ok (.getfield 122, 3) := by decide +kernel
theorem dX0_topOf_12 : decode cX0_topOf 12 = .ok (.idiv, 1) := by decide +kernel
theorem dX0_topOf_13 : decode cX0_topOf 13 = .ok (.aload_n 0, 1) := by decide +kernel
theorem dX0_topOf_14 : decode cX0_topOf 14 = .ok (.getfield 119, 3) := by decide +kernel
theorem dX0_topOf_17 : decode cX0_topOf 17 = .ok (.ishl, 1) := by decide +kernel
theorem dX0_topOf_18 : decode cX0_topOf 18 = .ok (.goto 4, 3) := by decide +kernel
theorem dX0_topOf_21 : decode cX0_topOf 21 = .ok (.iconst 0, 1) := by decide +kernel
theorem dX0_topOf_22 : decode cX0_topOf 22 = .ok (.ireturn, 1) := by decide +kernel
theorem dX0_itemsTouching_0 : decode cX0_itemsTouching 0 = .ok (.aload_n 0, 1) := by decide +kernel
theorem dX0_itemsTouching_1 : decode cX0_itemsTouching 1 = .ok (.iload_n 1, 1) := by decide +kernel
theorem dX0_itemsTouching_2 : decode cX0_itemsTouching 2 = .ok (.invokevirtual 106, 3) := by decide +kernel
theorem dX0_itemsTouching_5 : decode cX0_itemsTouching 5 = .ok (.istore_n 2, 1) := by decide +kernel
theorem dX0_itemsTouching_6 : decode cX0_itemsTouching 6 = .ok (.aload_n 0, 1) := by decide +kernel
theorem dX0_itemsTouching_7 : decode cX0_itemsTouching 7 = .ok (.iload_n 1, 1) := by decide +kernel
theorem dX0_itemsTouching_8 : decode cX0_itemsTouching 8 = .ok (.invokevirtual 109, 3) := by decide +kernel
theorem dX0_itemsTouching_11 : decode cX0_itemsTouching 11 = .ok (.istore_n 3, 1) := by decide +kernel
theorem dX0_itemsTouching_12 : decode cX0_itemsTouching 12 = .ok (.iconst 0, 1) := by decide +kernel
theorem dX0_itemsTouching_13 : decode cX0_itemsTouching 13 = .ok (.istore 4, 2) := by decide +kernel
theorem dX0_itemsTouching_15 : decode cX0_itemsTouching 15 = .ok (.iconst 0, 1) := by decide +kernel
theorem dX0_itemsTouching_16 : decode cX0_itemsTouching 16 = .ok (.istore 5, 2) := by decide +kernel
theorem dX0_itemsTouching_18 : decode cX0_itemsTouching 18 = .ok (.iload 5, 2) := by decide +kernel
theorem dX0_itemsTouching_20 : decode cX0_itemsTouching 20 = .ok (.aload_n 0, 1) := by decide +kernel
theorem dX0_itemsTouching_21 : decode cX0_itemsTouching 21 = .ok (.getfield 59, 3) := by decide +kernel
theorem dX0_itemsTouching_24 : decode cX0_itemsTouching 24 = .ok (.if_icmp .ge 23, 3) := by decide +kernel
theorem dX0_itemsTouching_27 : decode cX0_itemsTouching 27 = .ok (.aload_n 0, 1) := by decide +kernel
theorem dX0_itemsTouching_28 : decode cX0_itemsTouching 28 = .ok (.iload 5, 2) := by decide +kernel
theorem dX0_itemsTouching_30 : decode cX0_itemsTouching 30 = .ok (.iload_n 2, 1) := by decide +kernel
theorem dX0_itemsTouching_31 : decode cX0_itemsTouching 31 = .ok (.iload_n 3, 1) := by decide +kernel
theorem dX0_itemsTouching_32 : decode cX0_itemsTouching 32 = .ok (.invokevirtual 136, 3) := by decide +kernel
theorem dX0_itemsTouching_35 : decode cX0_itemsTouching 35 = .ok (.ifCond .eq 6, 3) := by decide +kernel
theorem dX0_itemsTouching_38 : decode cX0_itemsTouching 38 = .ok (.iinc 4 1, 3) := by decide +kernel
theorem dX0_itemsTouching_41 : decode cX0_itemsTouching 41 = .ok (.iinc 5 1, 3) := by decide +kernel
theorem dX0_itemsTouching_44 : decode cX0_itemsTouching 44 = .ok (.goto (-26), 3) := by decide +kernel
theorem dX0_itemsTouching_47 : decode cX0_itemsTouching 47 = .ok (.iload 4, 2) := by decide +kernel
theorem dX0_itemsTouching_49 : decode cX0_itemsTouching 49 = .ok (.ireturn, 1) := by decide +kernel
theorem dX0_firstTouching_0 : decode cX0_firstTouching 0 = .ok (.aload_n 0, 1) := by decide +kernel
theorem dX0_firstTouching_1 : decode cX0_firstTouching 1 = .ok (.iload_n 1, 1) := by decide +kernel
theorem dX0_firstTouching_2 : decode cX0_firstTouching 2 = .ok (.invokevirtual 106, 3) := by decide +kernel
theorem dX0_firstTouching_5 : decode cX0_firstTouching 5 = .ok (.istore_n 3, 1) := by decide +kernel
theorem dX0_firstTouching_6 : decode cX0_firstTouching 6 = .ok (.aload_n 0, 1) := by decide +kernel
theorem dX0_firstTouching_7 : decode cX0_firstTouching 7 = .ok (.iload_n 1, 1) := by decide +kernel
theorem dX0_firstTouching_8 : decode cX0_firstTouching 8 = .ok (.invokevirtual 109, 3) := by decide +kernel
theorem dX0_firstTouching_11 : decode cX0_firstTouching 11 = .ok (.istore 4, 2) := by decide +kernel
theorem dX0_firstTouching_13 : decode cX0_firstTouching 13 = .ok (.iload_n 2, 1) := by decide +kernel
theorem dX0_firstTouching_14 : decode cX0_firstTouching 14 = .ok (.istore 5, 2) := by decide +kernel
theorem dX0_firstTouching_16 : decode cX0_firstTouching 16 = .ok (.iload 5, 2) := by decide +kernel
theorem dX0_firstTouching_18 : decode cX0_firstTouching 18 = .ok (.aload_n 0, 1) := by decide +kernel
theorem dX0_firstTouching_19 : decode cX0_firstTouching 19 = .ok (.getfield 59, 3) := by decide +kernel
theorem dX0_firstTouching_22 : decode cX0_firstTouching 22 = .ok (.if_icmp .ge 24, 3) := by decide +kernel
theorem dX0_firstTouching_25 : decode cX0_firstTouching 25 = .ok (.aload_n 0, 1) := by decide +kernel
theorem dX0_firstTouching_26 : decode cX0_firstTouching 26 = .ok (.iload 5, 2) := by decide +kernel
theorem dX0_firstTouching_28 : decode cX0_firstTouching 28 = .ok (.iload_n 3, 1) := by decide +kernel
theorem dX0_firstTouching_29 : decode cX0_firstTouching 29 = .ok (.iload 4, 2) := by decide +kernel
theorem dX0_firstTouching_31 : decode cX0_firstTouching 31 = .ok (.invokevirtual 136, 3) := by decide +kernel
theorem dX0_firstTouching_34 : decode cX0_firstTouching 34 = .ok (.ifCond .eq 6, 3) := by decide +kernel
theorem dX0_firstTouching_37 : decode cX0_firstTouching 37 = .ok (.iload 5, 2) := by decide +kernel
theorem dX0_firstTouching_39 : decode cX0_firstTouching 39 = .ok (.ireturn, 1) := by decide +kernel
theorem dX0_firstTouching_40 : decode cX0_firstTouching 40 = .ok (.iinc 5 1, 3) := by decide +kernel
theorem dX0_firstTouching_43 : decode cX0_firstTouching 43 = .ok (.goto (-27), 3) := by decide +kernel
theorem dX0_firstTouching_46 : decode cX0_firstTouching 46 = .ok (.iconst (-1), 1) := by decide +kernel
theorem dX0_firstTouching_47 : decode cX0_firstTouching 47 = .ok (.ireturn, 1) := by decide +kernel
theorem dX0_touches_0 : decode cX0_touches 0 = .ok (.iload_n 1, 1) := by decide +kernel
theorem dX0_touches_1 : decode cX0_touches 1 = .ok (.bipush 6, 2) := by decide +kernel
theorem dX0_touches_3 : decode cX0_touches 3 = .ok (.imul, 1) := by decide +kernel
theorem dX0_touches_4 : decode cX0_touches 4 = .ok (.istore 4, 2) := by decide +kernel
theorem dX0_touches_6 : decode cX0_touches 6 = .ok (.aload_n 0, 1) := by decide +kernel
theorem dX0_touches_7 : decode cX0_touches 7 = .ok (.getfield 9, 3) := by decide +kernel
theorem dX0_touches_10 : decode cX0_touches 10 = .ok (.iload 4, 2) := by decide +kernel
theorem dX0_touches_12 : decode cX0_touches 12 = .ok (.iconst 0, 1) := by decide +kernel
theorem dX0_touches_13 : decode cX0_touches 13 = .ok (.iadd, 1) := by decide +kernel
theorem dX0_touches_14 : decode cX0_touches 14 = .ok (.iaload, 1) := by decide +kernel
theorem dX0_touches_15 : decode cX0_touches 15 = .ok (.iload_n 2, 1) := by decide +kernel
theorem dX0_touches_16 : decode cX0_touches 16 = .ok (.aload_n 0, 1) := by decide +kernel
theorem dX0_touches_17 : decode cX0_touches 17 = .ok (.invokevirtual 112, 3) := by decide +kernel
theorem dX0_touches_20 : decode cX0_touches 20 = .ok (.iadd, 1) := by decide +kernel
theorem dX0_touches_21 : decode cX0_touches 21 = .ok (.if_icmp .ge 51, 3) := by decide +kernel
theorem dX0_touches_24 : decode cX0_touches 24 = .ok (.iload_n 2, 1) := by decide +kernel
theorem dX0_touches_25 : decode cX0_touches 25 = .ok (.aload_n 0, 1) := by decide +kernel
theorem dX0_touches_26 : decode cX0_touches 26 = .ok (.getfield 9, 3) := by decide +kernel
theorem dX0_touches_29 : decode cX0_touches 29 = .ok (.iload 4, 2) := by decide +kernel
theorem dX0_touches_31 : decode cX0_touches 31 = .ok (.iconst 2, 1) := by decide +kernel
theorem dX0_touches_32 : decode cX0_touches 32 = .ok (.iadd, 1) := by decide +kernel
theorem dX0_touches_33 : decode cX0_touches 33 = .ok (.iaload, 1) := by decide +kernel
theorem dX0_touches_34 : decode cX0_touches 34 = .ok (.if_icmp .ge 38, 3) := by decide +kernel
theorem dX0_touches_37 : decode cX0_touches 37 = .ok (.aload_n 0, 1) := by decide +kernel
theorem dX0_touches_38 : decode cX0_touches 38 = .ok (.getfield 9, 3) := by decide +kernel
theorem dX0_touches_41 : decode cX0_touches 41 = .ok (.iload 4, 2) := by decide +kernel
theorem dX0_touches_43 : decode cX0_touches 43 = .ok (.iconst 1, 1) := by decide +kernel
theorem dX0_touches_44 : decode cX0_touches 44 = .ok (.iadd, 1) := by decide +kernel
theorem dX0_touches_45 : decode cX0_touches 45 = .ok (.iaload, 1) := by decide +kernel
theorem dX0_touches_46 : decode cX0_touches 46 = .ok (.iload_n 3, 1) := by decide +kernel
theorem dX0_touches_47 : decode cX0_touches 47 = .ok (.aload_n 0, 1) := by decide +kernel
theorem dX0_touches_48 : decode cX0_touches 48 = .ok (.invokevirtual 112, 3) := by decide +kernel
theorem dX0_touches_51 : decode cX0_touches 51 = .ok (.iadd, 1) := by decide +kernel
theorem dX0_touches_52 : decode cX0_touches 52 = .ok (.if_icmp .ge 20, 3) := by decide +kernel
theorem dX0_touches_55 : decode cX0_touches 55 = .ok (.iload_n 3, 1) := by decide +kernel
theorem dX0_touches_56 : decode cX0_touches 56 = .ok (.aload_n 0, 1) := by decide +kernel
theorem dX0_touches_57 : decode cX0_touches 57 = .ok (.getfield 9, 3) := by decide +kernel
theorem dX0_touches_60 : decode cX0_touches 60 = .ok (.iload 4, 2) := by decide +kernel
theorem dX0_touches_62 : decode cX0_touches 62 = .ok (.iconst 3, 1) := by decide +kernel
theorem dX0_touches_63 : decode cX0_touches 63 = .ok (.iadd, 1) := by decide +kernel
theorem dX0_touches_64 : decode cX0_touches 64 = .ok (.iaload, 1) := by decide +kernel
theorem dX0_touches_65 : decode cX0_touches 65 = .ok (.if_icmp .ge 7, 3) := by decide +kernel
theorem dX0_touches_68 : decode cX0_touches 68 = .ok (.iconst 1, 1) := by decide +kernel
theorem dX0_touches_69 : decode cX0_touches 69 = .ok (.goto 4, 3) := by decide +kernel
theorem dX0_touches_72 : decode cX0_touches 72 = .ok (.iconst 0, 1) := by decide +kernel
theorem dX0_touches_73 : decode cX0_touches 73 = .ok (.ireturn, 1) := by decide +kernel
theorem dX0_isWithin_0 : decode cX0_isWithin 0 = .ok (.iload_n 0, 1) := by decide +kernel
theorem dX0_isWithin_1 : decode cX0_isWithin 1 = .ok (.iload_n 1, 1) := by decide +kernel
theorem dX0_isWithin_2 : decode cX0_isWithin 2 = .ok (.if_icmp .lt 12, 3) := by decide +kernel
theorem dX0_isWithin_5 : decode cX0_isWithin 5 = .ok (.iload_n 0, 1) := by decide +kernel
theorem dX0_isWithin_6 : decode cX0_isWithin 6 = .ok (.iload_n 2, 1) := by decide +kernel
theorem dX0_isWithin_7 : decode cX0_isWithin 7 = .ok (.if_icmp .gt 7, 3) := by decide +kernel
theorem dX0_isWithin_10 : decode cX0_isWithin 10 = .ok (.iconst 1, 1) := by decide +kernel
theorem dX0_isWithin_11 : decode cX0_isWithin 11 = .ok (.goto 4, 3) := by decide +kernel
theorem dX0_isWithin_14 : decode cX0_isWithin 14 = .ok (.iconst 0, 1) := by decide +kernel
theorem dX0_isWithin_15 : decode cX0_isWithin 15 = .ok (.ireturn, 1) := by decide +kernel
theorem dX0_powerOf_0 : decode cX0_powerOf 0 = .ok (.iload_n 0, 1) := by decide +kernel
theorem dX0_powerOf_1 : decode cX0_powerOf 1 = .ok (.lookupswitch 52 #[(8, 43), (16, 45), (32, 47), (64, 49)], 43) := by decide +kernel
theorem dX0_powerOf_44 : decode cX0_powerOf 44 = .ok (.iconst 3, 1) := by decide +kernel
theorem dX0_powerOf_45 : decode cX0_powerOf 45 = .ok (.ireturn, 1) := by decide +kernel
theorem dX0_powerOf_46 : decode cX0_powerOf 46 = .ok (.iconst 4, 1) := by decide +kernel
theorem dX0_powerOf_47 : decode cX0_powerOf 47 = .ok (.ireturn, 1) := by decide +kernel
theorem dX0_powerOf_48 : decode cX0_powerOf 48 = .ok (.iconst 5, 1) := by decide +kernel
theorem dX0_powerOf_49 : decode cX0_powerOf 49 = .ok (.ireturn, 1) := by decide +kernel
theorem dX0_powerOf_50 : decode cX0_powerOf 50 = .ok (.bipush 6, 2) := by decide +kernel
theorem dX0_powerOf_52 : decode cX0_powerOf 52 = .ok (.ireturn, 1) := by decide +kernel
theorem dX0_powerOf_53 : decode cX0_powerOf 53 = .ok (.iconst (-1), 1) := by decide +kernel
theorem dX0_powerOf_54 : decode cX0_powerOf 54 = .ok (.ireturn, 1) := by decide +kernel
theorem dJ7_copyOf_0 : decode cJ7_copyOf 0 = .ok (.iload_n 1, 1) := by decide +kernel
theorem dJ7_copyOf_1 : decode cJ7_copyOf 1 = .ok (.aload_n 0, 1) := by decide +kernel
theorem dJ7_copyOf_2 : decode cJ7_copyOf 2 = .ok (.arraylength, 1) := by decide +kernel
theorem dJ7_copyOf_3 : decode cJ7_copyOf 3 = .ok (.if_icmp .ne 11, 3) := by decide +kernel
theorem dJ7_copyOf_6 : decode cJ7_copyOf 6 = .ok (.aload_n 0, 1) := by decide +kernel
theorem dJ7_copyOf_7 : decode cJ7_copyOf 7 = .ok (.invokevirtual 316, 3) := by decide +kernel
theorem dJ7_copyOf_10 : decode cJ7_copyOf 10 = .ok (.checkcast 317, 3) := by decide +kernel
theorem dJ7_copyOf_13 : decode cJ7_copyOf 13 = .ok (.areturn, 1) := by decide +kernel
theorem dJ7_copyOf_14 : decode cJ7_copyOf 14 = .ok (.iload_n 1, 1) := by decide +kernel
theorem dJ7_copyOf_15 : decode cJ7_copyOf 15 = .ok (.newarray .int, 2) := by decide +kernel
theorem dJ7_copyOf_17 : decode cJ7_copyOf 17 = .ok (.astore_n 2, 1) := by decide +kernel
theorem dJ7_copyOf_18 : decode cJ7_copyOf 18 = .ok (.aload_n 0, 1) := by decide +kernel
theorem dJ7_copyOf_19 : decode cJ7_copyOf 19 = .ok (.iconst 0, 1) := by decide +kernel
theorem dJ7_copyOf_20 : decode cJ7_copyOf 20 = .ok (.aload_n 2, 1) := by decide +kernel
theorem dJ7_copyOf_21 : decode cJ7_copyOf 21 = .ok (.iconst 0, 1) := by decide +kernel
theorem dJ7_copyOf_22 : decode cJ7_copyOf 22 = .ok (.aload_n 0, 1) := by decide +kernel
theorem dJ7_copyOf_23 : decode cJ7_copyOf 23 = .ok (.arraylength, 1) := by decide +kernel
theorem dJ7_copyOf_24 : decode cJ7_copyOf 24 = .ok (.iload_n 1, 1) := by decide +kernel
theorem dJ7_copyOf_25 : decode cJ7_copyOf 25 = .ok (.invokestatic 304, 3) := by decide +kernel
theorem dJ7_copyOf_28 : decode cJ7_copyOf 28 = .ok (.invokestatic 150, 3) := by decide +kernel
theorem dJ7_copyOf_31 : decode cJ7_copyOf 31 = .ok (.aload_n 2, 1) := by decide +kernel
theorem dJ7_copyOf_32 : decode cJ7_copyOf 32 = .ok (.areturn, 1) := by decide +kernel
