theorem dX11_init_0 : decode cX11_init 0 = .ok (.aload_n 0, 1) := by decide +kernel
theorem dX11_init_1 : decode cX11_init 1 = .ok (.invokespecial 1, 3) := by decide +kernel
theorem dX11_init_4 : decode cX11_init 4 = .ok (.aload_n 0, 1) := by decide +kernel
theorem dX11_init_5 : decode cX11_init 5 = .ok (.sipush 261, 3) := by decide +kernel
theorem dX11_init_8 : decode cX11_init 8 = .ok (.newarray .int, 2) := by decide +kernel
theorem dX11_init_10 : decode cX11_init 10 = .ok (.putfield 7, 3) := by decide +kernel
theorem dX11_init_13 : decode cX11_init 13 = .ok (.aload_n 0, 1) := by decide +kernel
theorem dX11_init_14 : decode cX11_init 14 = .ok (.iconst 2, 1) := by decide +kernel
theorem dX11_init_15 : decode cX11_init 15 = .ok (.newarray .boolean, 2) := by decide +kernel
theorem dX11_init_17 : decode cX11_init 17 = .ok (.putfield 13, 3) := by decide +kernel
theorem dX11_init_20 : decode cX11_init 20 = .ok (.aload_n 0, 1) := by decide +kernel
theorem dX11_init_21 : decode cX11_init 21 = .ok (.sipush 200, 3) := by decide +kernel
theorem dX11_init_24 : decode cX11_init 24 = .ok (.newarray .int, 2) := by decide +kernel
theorem dX11_init_26 : decode cX11_init 26 = .ok (.putfield 17, 3) := by decide +kernel
theorem dX11_init_29 : decode cX11_init 29 = .ok (.aload_n 0, 1) := by decide +kernel
theorem dX11_init_30 : decode cX11_init 30 = .ok (.bipush 60, 2) := by decide +kernel
theorem dX11_init_32 : decode cX11_init 32 = .ok (.newarray .int, 2) := by decide +kernel
theorem dX11_init_34 : decode cX11_init 34 = .ok (.putfield 20, 3) := by decide +kernel
theorem dX11_init_37 : decode cX11_init 37 = .ok (.aload_n 0, 1) := by decide +kernel
theorem dX11_init_38 : decode cX11_init 38 = .ok (.iconst 2, 1) := by decide +kernel
theorem dX11_init_39 : decode cX11_init 39 = .ok (.putfield 23, 3) := by decide +kernel
theorem dX11_init_42 : decode cX11_init 42 = .ok (.aload_n 0, 1) := by decide +kernel
theorem dX11_init_43 : decode cX11_init 43 = .ok (.iconst 2, 1) := by decide +kernel
theorem dX11_init_44 : decode cX11_init 44 = .ok (.putfield 27, 3) := by decide +kernel
theorem dX11_init_47 : decode cX11_init 47 = .ok (.aload_n 0, 1) := by decide +kernel
theorem dX11_init_48 : decode cX11_init 48 = .ok (.bipush 24, 2) := by decide +kernel
theorem dX11_init_50 : decode cX11_init 50 = .ok (.newarray .int, 2) := by decide +kernel
theorem dX11_init_52 : decode cX11_init 52 = .ok (.putfield 30, 3) := by decide +kernel
theorem dX11_init_55 : decode cX11_init 55 = .ok (.aload_n 0, 1) := by decide +kernel
theorem dX11_init_56 : decode cX11_init 56 = .ok (.bipush 6, 2) := by decide +kernel
theorem dX11_init_58 : decode cX11_init 58 = .ok (.newarray .int, 2) := by decide +kernel
theorem dX11_init_60 : decode cX11_init 60 = .ok (.putfield 33, 3) := by decide +kernel
theorem dX11_init_63 : decode cX11_init 63 = .ok (.aload_n 0, 1) := by decide +kernel
theorem dX11_init_64 : decode cX11_init 64 = .ok (.bipush 96, 2) := by decide +kernel
theorem dX11_init_66 : decode cX11_init 66 = .ok (.newarray .int, 2) := by decide +kernel
theorem dX11_init_68 : decode cX11_init 68 = .ok (.putfield 36, 3) := by decide +kernel
theorem dX11_init_71 : decode cX11_init 71 = .ok (.aload_n 0, 1) := by decide +kernel
theorem dX11_init_72 : decode cX11_init 72 = .ok (.iconst 1, 1) := by decide +kernel
theorem dX11_init_73 : decode cX11_init 73 = .ok (.putfield 39, 3) := by decide +kernel
theorem dX11_init_76 : decode cX11_init 76 = .ok (.aload_n 0, 1) := by decide +kernel
theorem dX11_init_77 : decode cX11_init 77 = .ok (.bipush 12, 2) := by decide +kernel
theorem dX11_init_79 : decode cX11_init 79 = .ok (.newarray .boolean, 2) := by decide +kernel
theorem dX11_init_81 : decode cX11_init 81 = .ok (.putfield 42, 3) := by decide +kernel
theorem dX11_init_84 : decode cX11_init 84 = .ok (.aload_n 0, 1) := by decide +kernel
theorem dX11_init_85 : decode cX11_init 85 = .ok (.sipush 5025, 3) := by decide +kernel
theorem dX11_init_88 : decode cX11_init 88 = .ok (.newarray .int, 2) := by decide +kernel
theorem dX11_init_90 : decode cX11_init 90 = .ok (.putfield 45, 3) := by decide +kernel
theorem dX11_init_93 : decode cX11_init 93 = .ok (.aload_n 0, 1) := by decide +kernel
theorem dX11_init_94 : decode cX11_init 94 = .ok (.bipush 48, 2) := by decide +kernel
theorem dX11_init_96 : decode cX11_init 96 = .ok (.newarray .int, 2) := by decide +kernel
theorem dX11_init_98 : decode cX11_init 98 = .ok (.putfield 48, 3) := by decide +kernel
theorem dX11_init_101 : decode cX11_init 101 = .ok (.aload_n 0, 1) := by decide +kernel
theorem dX11_init_102 : decode cX11_init 102 = .ok (.iconst 4, 1) := by decide +kernel
theorem dX11_init_103 : decode cX11_init 103 = .ok (.newarray .int, 2) := by decide +kernel
theorem dX11_init_105 : decode cX11_init 105 = .ok (.putfield 51, 3) := by decide +kernel
theorem dX11_init_108 : decode cX11_init 108 = .ok (.aload_n 0, 1) := by decide +kernel
theorem dX11_init_109 : decode cX11_init 109 = .ok (.iconst 4, 1) := by decide +kernel
theorem dX11_init_110 : decode cX11_init 110 = .ok (.newarray .int, 2) := by decide +kernel
theorem dX11_init_112 : decode cX11_init 112 = .ok (.putfield 54, 3) := by decide +kernel
theorem dX11_init_115 : decode cX11_init 115 = .ok (.aload_n 0, 1) := by decide +kernel
theorem dX11_init_116 : decode cX11_init 116 = .ok (.bipush 36, 2) := by decide +kernel
theorem dX11_init_118 : decode cX11_init 118 = .ok (.newarray .int, 2) := by decide +kernel
theorem dX11_init_120 : decode cX11_init 120 = .ok (.putfield 57, 3) := by decide +kernel
theorem dX11_init_123 : decode cX11_init 123 = .ok (.aload_n 0, 1) := by decide +kernel
theorem dX11_init_124 : decode cX11_init 124 = .ok (.bipush 64, 2) := by decide +kernel
theorem dX11_init_126 : decode cX11_init 126 = .ok (.newarray .int, 2) := by decide +kernel
theorem dX11_init_128 : decode cX11_init 128 = .ok (.putfield 60, 3) := by decide +kernel
theorem dX11_init_131 : decode cX11_init 131 = .ok (.aload_n 0, 1) := by decide +kernel
theorem dX11_init_132 : decode cX11_init 132 = .ok (.bipush 72, 2) := by decide +kernel
theorem dX11_init_134 : decode cX11_init 134 = .ok (.newarray .int, 2) := by decide +kernel
theorem dX11_init_136 : decode cX11_init 136 = .ok (.putfield 63, 3) := by decide +kernel
theorem dX11_init_139 : decode cX11_init 139 = .ok (.aload_n 0, 1) := by decide +kernel
theorem dX11_init_140 : decode cX11_init 140 = .ok (.bipush 64, 2) := by decide +kernel
theorem dX11_init_142 : decode cX11_init 142 = .ok (.newarray .int, 2) := by decide +kernel
theorem dX11_init_144 : decode cX11_init 144 = .ok (.putfield 66, 3) := by decide +kernel
theorem dX11_init_147 : decode cX11_init 147 = .ok (.aload_n 0, 1) := by decide +kernel
theorem dX11_init_148 : decode cX11_init 148 = .ok (.bipush 40, 2) := by decide +kernel
theorem dX11_init_150 : decode cX11_init 150 = .ok (.newarray .int, 2) := by decide +kernel
theorem dX11_init_152 : decode cX11_init 152 = .ok (.putfield 69, 3) := by decide +kernel
theorem dX11_init_155 : decode cX11_init 155 = .ok (.aload_n 0, 1) := by decide +kernel
theorem dX11_init_156 : decode cX11_init 156 = .ok (.bipush 82, 2) := by decide +kernel
theorem dX11_init_158 : decode cX11_init 158 = .ok (.newarray .int, 2) := by decide +kernel
theorem dX11_init_160 : decode cX11_init 160 = .ok (.putfield 72, 3) := by decide +kernel
theorem dX11_init_163 : decode cX11_init 163 = .ok (.aload_n 0, 1) := by decide +kernel
theorem dX11_init_164 : decode cX11_init 164 = .ok (.getfield 30, 3) := by decide +kernel
theorem dX11_init_167 : decode cX11_init 167 = .ok (.bipush 20, 2) := by decide +kernel
theorem dX11_init_169 : decode cX11_init 169 = .ok (.iconst 4, 1) := by decide +kernel
theorem dX11_init_170 : decode cX11_init 170 = .ok (.iastore, 1) := by decide +kernel
theorem dX11_init_171 : decode cX11_init 171 = .ok (.iconst 0, 1) := by decide +kernel
theorem dX11_init_172 : decode cX11_init 172 = .ok (.istore_n 1, 1) := by decide +kernel
theorem dX11_init_173 : decode cX11_init 173 = .ok (.iload_n 1, 1) := by decide +kernel
theorem dX11_init_174 : decode cX11_init 174 = .ok (.bipush 96, 2) := by decide +kernel
theorem dX11_init_176 : decode cX11_init 176 = .ok (.if_icmp .ge 16, 3) := by decide +kernel
theorem dX11_init_179 : decode cX11_init 179 = .ok (.aload_n 0, 1) := by decide +kernel
theorem dX11_init_180 : decode cX11_init 180 = .ok (.getfield 36, 3) := by decide +kernel
theorem dX11_init_183 : decode cX11_init 183 = .ok (.iload_n 1, 1) := by decide +kernel
theorem dX11_init_184 : decode cX11_init 184 = .ok (.iconst 5, 1) := by decide +kernel
theorem dX11_init_185 : decode cX11_init 185 = .ok (.iastore, 1) := by decide +kernel
theorem dX11_init_186 : decode cX11_init 186 = .ok (.iinc 1 1, 3) := by decide +kernel
theorem dX11_init_189 : decode cX11_init 189 = .ok (.goto (-16), 3) := by decide +kernel
theorem dX11_init_192 : decode cX11_init 192 = .ok (.aload_n 0, 1) := by decide +kernel
theorem dX11_init_193 : decode cX11_init 193 = .ok (.invokevirtual 75, 3) := by decide +kernel
theorem dX11_init_196 : decode cX11_init 196 = .ok (.return_, 1) := by decide +kernel
theorem dX11_begin_0 : decode cX11_begin 0 = .ok (.iconst 0, 1) := by decide +kernel
theorem dX11_begin_1 : decode cX11_begin 1 = .ok (.istore_n 1, 1) := by decide +kernel
theorem dX11_begin_2 : decode cX11_begin 2 = .ok (.iload_n 1, 1) := by decide +kernel
theorem dX11_begin_3 : decode cX11_begin 3 = .ok (.bipush 87, 2) := by decide +kernel
theorem dX11_begin_5 : decode cX11_begin 5 = .ok (.if_icmp .ge 26, 3) := by decide +kernel
theorem dX11_begin_8 : decode cX11_begin 8 = .ok (.aload_n 0, 1) := by decide +kernel
theorem dX11_begin_9 : decode cX11_begin 9 = .ok (.getfield 7, 3) := by decide +kernel
theorem dX11_begin_12 : decode cX11_begin 12 = .ok (.iload_n 1, 1) := by decide +kernel
theorem dX11_begin_13 : decode cX11_begin 13 = .ok (.iload_n 1, 1) := by decide +kernel
theorem dX11_begin_14 : decode cX11_begin 14 = .ok (.bipush 39, 2) := by decide +kernel
theorem dX11_begin_16 : decode cX11_begin 16 = .ok (.if_icmp .ge 7, 3) := by decide +kernel
theorem dX11_begin_19 : decode cX11_begin 19 = .ok (.iconst 0, 1) := by decide +kernel
theorem dX11_begin_20 : decode cX11_begin 20 = .ok (.goto 4, 3) := by decide +kernel
theorem dX11_begin_23 : decode cX11_begin 23 = .ok (.iconst (-1), 1) := by decide +kernel
theorem dX11_begin_24 : decode cX11_begin 24 = .ok (.iastore, 1) := by decide +kernel
theorem dX11_begin_25 : decode cX11_begin 25 = .ok (.iinc 1 1, 3) := by decide +kernel
theorem dX11_begin_28 : decode cX11_begin 28 = .ok (.goto (-26), 3) := by decide +kernel
theorem dX11_begin_31 : decode cX11_begin 31 = .ok (.return_, 1) := by decide +kernel
theorem dX11_in_0 : decode cX11_in 0 = .ok (.lload_n 0, 1) := by decide +kernel
theorem dX11_in_1 : decode cX11_in 1 = .ok (.lload_n 2, 1) := by decide +kernel
theorem dX11_in_2 : decode cX11_in 2 = .ok (.lcmp, 1) := by decide +kernel
theorem dX11_in_3 : decode cX11_in 3 = .ok (.ifCond .lt 14, 3) := by decide +kernel
theorem dX11_in_6 : decode cX11_in 6 = .ok (.lload_n 0, 1) := by decide +kernel
theorem dX11_in_7 : decode cX11_in 7 = .ok (.lload 4, 2) := by decide +kernel
theorem dX11_in_9 : decode cX11_in 9 = .ok (.lcmp, 1) := by decide +kernel
theorem dX11_in_10 : decode cX11_in 10 = .ok (.ifCond .gt 7, 3) := by decide +kernel
theorem dX11_in_13 : decode cX11_in 13 = .ok (.iconst 1, 1) := by decide +kernel
theorem dX11_in_14 : decode cX11_in 14 = .ok (.goto 4, 3) := by decide +kernel
theorem dX11_in_17 : decode cX11_in 17 = .ok (.iconst 0, 1) := by decide +kernel
theorem dX11_in_18 : decode cX11_in 18 = .ok (.ireturn, 1) := by decide +kernel
theorem dX11_write_0 : decode cX11_write 0 = .ok (.iload_n 3, 1) := by decide +kernel
theorem dX11_write_1 : decode cX11_write 1 = .ok (.i2l, 1) := by decide +kernel
theorem dX11_write_2 : decode cX11_write 2 = .ok (.lconst 1, 1) := by decide +kernel
theorem dX11_write_3 : decode cX11_write 3 = .ok (.ldc2_w 78, 3) := by decide +kernel
theorem dX11_write_6 : decode cX11_write 6 = .ok (.invokestatic 80, 3) := by decide +kernel
theorem dX11_write_9 : decode cX11_write 9 = .ok (.ifCond .ne 6, 3) := by decide +kernel
theorem dX11_write_12 : decode cX11_write 12 = .ok (.bipush (-3), 2) := by decide +kernel
theorem dX11_write_14 : decode cX11_write 14 = .ok (.ireturn, 1) := by decide +kernel
theorem dX11_write_15 : decode cX11_write 15 = .ok (.aload_n 0, 1) := by decide +kernel
theorem dX11_write_16 : decode cX11_write 16 = .ok (.getfield 84, 3) := by decide +kernel
theorem dX11_write_19 : decode cX11_write 19 = .ok (.iload_n 3, 1) := by decide +kernel
theorem dX11_write_20 : decode cX11_write 20 = .ok (.iadd, 1) := by decide +kernel
theorem dX11_write_21 : decode cX11_write 21 = .ok (.sipush 200, 3) := by decide +kernel
theorem dX11_write_24 : decode cX11_write 24 = .ok (.if_icmp .le 6, 3) := by decide +kernel
theorem dX11_write_27 : decode cX11_write 27 = .ok (.bipush (-5), 2) := by decide +kernel
theorem dX11_write_29 : decode cX11_write 29 = .ok (.ireturn, 1) := by decide +kernel
theorem dX11_write_30 : decode cX11_write 30 = .ok (.iconst 0, 1) := by decide +kernel
theorem dX11_write_31 : decode cX11_write 31 = .ok (.istore 4, 2) := by decide +kernel
theorem dX11_write_33 : decode cX11_write 33 = .ok (.iload 4, 2) := by decide +kernel
theorem dX11_write_35 : decode cX11_write 35 = .ok (.iload_n 3, 1) := by decide +kernel
theorem dX11_write_36 : decode cX11_write 36 = .ok (.if_icmp .ge 40, 3) := by decide +kernel
theorem dX11_write_39 : decode cX11_write 39 = .ok (.aload_n 0, 1) := by decide +kernel
theorem dX11_write_40 : decode cX11_write 40 = .ok (.getfield 17, 3) := by decide +kernel
theorem dX11_write_43 : decode cX11_write 43 = .ok (.aload_n 0, 1) := by decide +kernel
theorem dX11_write_44 : decode cX11_write 44 = .ok (.getfield 84, 3) := by decide +kernel
theorem dX11_write_47 : decode cX11_write 47 = .ok (.lload_n 1, 1) := by decide +kernel
theorem dX11_write_48 : decode cX11_write 48 = .ok (.bipush 8, 2) := by decide +kernel
theorem dX11_write_50 : decode cX11_write 50 = .ok (.iload 4, 2) := by decide +kernel
theorem dX11_write_52 : decode cX11_write 52 = .ok (.imul, 1) := by decide +kernel
theorem dX11_write_53 : decode cX11_write 53 = .ok (.lshr, 1) := by decide +kernel
theorem dX11_write_54 : decode cX11_write 54 = .ok (.ldc2_w 87, 3) := by decide +kernel
theorem dX11_write_57 : decode cX11_write 57 = .ok (.land, 1) := by decide +kernel
theorem dX11_write_58 : decode cX11_write 58 = .ok (.l2i, 1) := by decide +kernel
theorem dX11_write_59 : decode cX11_write 59 = .ok (.iastore, 1) := by decide +kernel
theorem dX11_write_60 : decode cX11_write 60 = .ok (.aload_n 0, 1) := by decide +kernel
theorem dX11_write_61 : decode cX11_write 61 = .ok (.dup, 1) := by decide +kernel
theorem dX11_write_62 : decode cX11_write 62 = .ok (.getfield 84, 3) := by decide +kernel
theorem dX11_write_65 : decode cX11_write 65 = .ok (.iconst 1, 1) := by decide +kernel
theorem dX11_write_66 : decode cX11_write 66 = .ok (.iadd, 1) := by decide +kernel
theorem dX11_write_67 : decode cX11_write 67 = .ok (.putfield 84, 3) := by decide +kernel
theorem dX11_write_70 : decode cX11_write 70 = .ok (.iinc 4 1, 3) := by decide +kernel
theorem dX11_write_73 : decode cX11_write 73 = .ok (.goto (-40), 3) := by decide +kernel
theorem dX11_write_76 : decode cX11_write 76 = .ok (.aload_n 0, 1) := by decide +kernel
theorem dX11_write_77 : decode cX11_write 77 = .ok (.getfield 84, 3) := by decide +kernel
theorem dX11_write_80 : decode cX11_write 80 = .ok (.ireturn, 1) := by decide +kernel
theorem dX11_erase_0 : decode cX11_erase 0 = .ok (.aload_n 0, 1) := by decide +kernel
theorem dX11_erase_1 : decode cX11_erase 1 = .ok (.getfield 84, 3) := by decide +kernel
theorem dX11_erase_4 : decode cX11_erase 4 = .ok (.istore_n 1, 1) := by decide +kernel
theorem dX11_erase_5 : decode cX11_erase 5 = .ok (.aload_n 0, 1) := by decide +kernel
theorem dX11_erase_6 : decode cX11_erase 6 = .ok (.iconst 0, 1) := by decide +kernel
theorem dX11_erase_7 : decode cX11_erase 7 = .ok (.putfield 84, 3) := by decide +kernel
theorem dX11_erase_10 : decode cX11_erase 10 = .ok (.iload_n 1, 1) := by decide +kernel
theorem dX11_erase_11 : decode cX11_erase 11 = .ok (.ireturn, 1) := by decide +kernel
theorem dX11_sort_0 : decode cX11_sort 0 = .ok (.iload_n 0, 1) := by decide +kernel
theorem dX11_sort_1 : decode cX11_sort 1 = .ok (.bipush 97, 2) := by decide +kernel
theorem dX11_sort_3 : decode cX11_sort 3 = .ok (.if_icmp .lt 13, 3) := by decide +kernel
theorem dX11_sort_6 : decode cX11_sort 6 = .ok (.iload_n 0, 1) := by decide +kernel
theorem dX11_sort_7 : decode cX11_sort 7 = .ok (.bipush 122, 2) := by decide +kernel
theorem dX11_sort_9 : decode cX11_sort 9 = .ok (.if_icmp .gt 7, 3) := by decide +kernel
theorem dX11_sort_12 : decode cX11_sort 12 = .ok (.iconst 1, 1) := by decide +kernel
theorem dX11_sort_13 : decode cX11_sort 13 = .ok (.goto 20, 3) := by decide +kernel
theorem dX11_sort_16 : decode cX11_sort 16 = .ok (.iload_n 0, 1) := by decide +kernel
theorem dX11_sort_17 : decode cX11_sort 17 = .ok (.bipush 48, 2) := by decide +kernel
theorem dX11_sort_19 : decode cX11_sort 19 = .ok (.if_icmp .lt 13, 3) := by decide +kernel
theorem dX11_sort_22 : decode cX11_sort 22 = .ok (.iload_n 0, 1) := by decide +kernel
theorem dX11_sort_23 : decode cX11_sort 23 = .ok (.bipush 57, 2) := by decide +kernel
theorem dX11_sort_25 : decode cX11_sort 25 = .ok (.if_icmp .gt 7, 3) := by decide +kernel
theorem dX11_sort_28 : decode cX11_sort 28 = .ok (.iconst 2, 1) := by decide +kernel
theorem dX11_sort_29 : decode cX11_sort 29 = .ok (.goto 4, 3) := by decide +kernel
theorem dX11_sort_32 : decode cX11_sort 32 = .ok (.iconst 0, 1) := by decide +kernel
theorem dX11_sort_33 : decode cX11_sort 33 = .ok (.ireturn, 1) := by decide +kernel
theorem dX11_token_0 : decode cX11_token 0 = .ok (.aload_n 0, 1) := by decide +kernel
theorem dX11_token_1 : decode cX11_token 1 = .ok (.getfield 89, 3) := by decide +kernel
theorem dX11_token_4 : decode cX11_token 4 = .ok (.aload_n 0, 1) := by decide +kernel
theorem dX11_token_5 : decode cX11_token 5 = .ok (.getfield 84, 3) := by decide +kernel
theorem dX11_token_8 : decode cX11_token 8 = .ok (.if_icmp .ge 30, 3) := by decide +kernel
theorem dX11_token_11 : decode cX11_token 11 = .ok (.aload_n 0, 1) := by decide +kernel
theorem dX11_token_12 : decode cX11_token 12 = .ok (.getfield 17, 3) := by decide +kernel
theorem dX11_token_15 : decode cX11_token 15 = .ok (.aload_n 0, 1) := by decide +kernel
theorem dX11_token_16 : decode cX11_token 16 = .ok (.getfield 89, 3) := by decide +kernel
theorem dX11_token_19 : decode cX11_token 19 = .ok (.iaload, 1) := by decide +kernel
theorem dX11_token_20 : decode cX11_token 20 = .ok (.bipush 32, 2) := by decide +kernel
theorem dX11_token_22 : decode cX11_token 22 = .ok (.if_icmp .ne 16, 3) := by decide +kernel
theorem dX11_token_25 : decode cX11_token 25 = .ok (.aload_n 0, 1) := by decide +kernel
theorem dX11_token_26 : decode cX11_token 26 = .ok (.dup, 1) := by decide +kernel
theorem dX11_token_27 : decode cX11_token 27 = .ok (.getfield 89, 3) := by decide +kernel
theorem dX11_token_30 : decode cX11_token 30 = .ok (.iconst 1, 1) := by decide +kernel
theorem dX11_token_31 : decode cX11_token 31 = .ok (.iadd, 1) := by decide +kernel
theorem dX11_token_32 : decode cX11_token 32 = .ok (.putfield 89, 3) := by decide +kernel
theorem dX11_token_35 : decode cX11_token 35 = .ok (.goto (-35), 3) := by decide +kernel
theorem dX11_token_38 : decode cX11_token 38 = .ok (.aload_n 0, 1) := by decide +kernel
theorem dX11_token_39 : decode cX11_token 39 = .ok (.aload_n 0, 1) := by decide +kernel
theorem dX11_token_40 : decode cX11_token 40 = .ok (.getfield 89, 3) := by decide +kernel
theorem dX11_token_43 : decode cX11_token 43 = .ok (.putfield 92, 3) := by decide +kernel
theorem dX11_token_46 : decode cX11_token 46 = .ok (.aload_n 0, 1) := by decide +kernel
theorem dX11_token_47 : decode cX11_token 47 = .ok (.dup, 1) := by decide +kernel
theorem dX11_token_48 : decode cX11_token 48 = .ok (.getfield 89, 3) := by decide +kernel
theorem dX11_token_51 : decode cX11_token 51 = .ok (.aload_n 0, 1) := by decide +kernel
theorem dX11_token_52 : decode cX11_token 52 = .ok (.getfield 89, 3) := by decide +kernel
theorem dX11_token_55 : decode cX11_token 55 = .ok (.aload_n 0, 1) := by decide +kernel
theorem dX11_token_56 : decode cX11_token 56 = .ok (.getfield 84, 3) := by decide +kernel
theorem dX11_token_59 : decode cX11_token 59 = .ok (.if_icmp .ge 7, 3) := by decide +kernel
theorem dX11_token_62 : decode cX11_token 62 = .ok (.iconst 1, 1) := by decide +kernel
theorem dX11_token_63 : decode cX11_token 63 = .ok (.goto 4, 3) := by decide +kernel
theorem dX11_token_66 : decode cX11_token 66 = .ok (.iconst 0, 1) := by decide +kernel
theorem dX11_token_67 : decode cX11_token 67 = .ok (.iadd, 1) := by decide +kernel
theorem dX11_token_68 : decode cX11_token 68 = .ok (.putfield 89, 3) := by decide +kernel
theorem dX11_token_71 : decode cX11_token 71 = .ok (.aload_n 0, 1) := by decide +kernel
theorem dX11_token_72 : decode cX11_token 72 = .ok (.getfield 89, 3) := by decide +kernel
theorem dX11_token_75 : decode cX11_token 75 = .ok (.aload_n 0, 1) := by decide +kernel
theorem dX11_token_76 : decode cX11_token 76 = .ok (.getfield 84, 3) := by decide +kernel
theorem dX11_token_79 : decode cX11_token 79 = .ok (.if_icmp .ge 58, 3) := by decide +kernel
theorem dX11_token_82 : decode cX11_token 82 = .ok (.aload_n 0, 1) := by decide +kernel
theorem dX11_token_83 : decode cX11_token 83 = .ok (.getfield 17, 3) := by decide +kernel
theorem dX11_token_86 : decode cX11_token 86 = .ok (.aload_n 0, 1) := by decide +kernel
theorem dX11_token_87 : decode cX11_token 87 = .ok (.getfield 92, 3) := by decide +kernel
theorem dX11_token_90 : decode cX11_token 90 = .ok (.iaload, 1) := by decide +kernel
theorem dX11_token_91 : decode cX11_token 91 = .ok (.invokestatic 95, 3) := by decide +kernel
theorem dX11_token_94 : decode cX11_token 94 = .ok (.ifCond .le 43, 3) := by decide +kernel
theorem dX11_token_97 : decode cX11_token 97 = .ok (.aload_n 0, 1) := by decide +kernel
theorem dX11_token_98 : decode cX11_token 98 = .ok (.getfield 17, 3) := by decide +kernel
theorem dX11_token_101 : decode cX11_token 101 = .ok (.aload_n 0, 1) := by decide +kernel
theorem dX11_token_102 : decode cX11_token 102 = .ok (.getfield 89, 3) := by decide +kernel
theorem dX11_token_105 : decode cX11_token 105 = .ok (.iaload, 1) := by decide +kernel
theorem dX11_token_106 : decode cX11_token 106 = .ok (.invokestatic 95, 3) := by decide +kernel
theorem dX11_token_109 : decode cX11_token 109 = .ok (.aload_n 0, 1) := by decide +kernel
theorem dX11_token_110 : decode cX11_token 110 = .ok (.getfield 17, 3) := by decide +kernel
theorem dX11_token_113 : decode cX11_token 113 = .ok (.aload_n 0, 1) := by decide +kernel
theorem dX11_token_114 : decode cX11_token 114 = .ok (.getfield 92, 3) := by decide +kernel
theorem dX11_token_117 : decode cX11_token 117 = .ok (.iaload, 1) := by decide +kernel
theorem dX11_token_118 : decode cX11_token 118 = .ok (.invokestatic 95, 3) := by decide +kernel
theorem dX11_token_121 : decode cX11_token 121 = .ok (.if_icmp .ne 16, 3) := by decide +kernel
theorem dX11_token_124 : decode cX11_token 124 = .ok (.aload_n 0, 1) := by decide +kernel
theorem dX11_token_125 : decode cX11_token 125 = .ok (.dup, 1) := by decide +kernel
theorem dX11_token_126 : decode cX11_token 126 = .ok (.getfield 89, 3) := by decide +kernel
theorem dX11_token_129 : decode cX11_token 129 = .ok (.iconst 1, 1) := by decide +kernel
theorem dX11_token_130 : decode cX11_token 130 = .ok (.iadd, 1) := by decide +kernel
theorem dX11_token_131 : decode cX11_token 131 = .ok (.putfield 89, 3) := by decide +kernel
theorem dX11_token_134 : decode cX11_token 134 = .ok (.goto (-63), 3) := by decide +kernel
theorem dX11_token_137 : decode cX11_token 137 = .ok (.aload_n 0, 1) := by decide +kernel
theorem dX11_token_138 : decode cX11_token 138 = .ok (.aload_n 0, 1) := by decide +kernel
theorem dX11_token_139 : decode cX11_token 139 = .ok (.getfield 89, 3) := by decide +kernel
theorem dX11_token_142 : decode cX11_token 142 = .ok (.putfield 99, 3) := by decide +kernel
theorem dX11_token_145 : decode cX11_token 145 = .ok (.return_, 1) := by decide +kernel
theorem dX11_isWord_0 : decode cX11_isWord 0 = .ok (.aload_n 0, 1) := by decide +kernel
theorem dX11_isWord_1 : decode cX11_isWord 1 = .ok (.getfield 99, 3) := by decide +kernel
theorem dX11_isWord_4 : decode cX11_isWord 4 = .ok (.aload_n 0, 1) := by decide +kernel
theorem dX11_isWord_5 : decode cX11_isWord 5 = .ok (.getfield 92, 3) := by decide +kernel
theorem dX11_isWord_8 : decode cX11_isWord 8 = .ok (.isub, 1) := by decide +kernel
theorem dX11_isWord_9 : decode cX11_isWord 9 = .ok (.iload_n 2, 1) := by decide +kernel
theorem dX11_isWord_10 : decode cX11_isWord 10 = .ok (.if_icmp .ne 7, 3) := by decide +kernel
theorem dX11_isWord_13 : decode cX11_isWord 13 = .ok (.iconst 1, 1) := by decide +kernel
theorem dX11_isWord_14 : decode cX11_isWord 14 = .ok (.goto 4, 3) := by decide +kernel
theorem dX11_isWord_17 : decode cX11_isWord 17 = .ok (.iconst 0, 1) := by decide +kernel
theorem dX11_isWord_18 : decode cX11_isWord 18 = .ok (.istore_n 3, 1) := by decide +kernel
theorem dX11_isWord_19 : decode cX11_isWord 19 = .ok (.iconst 0, 1) := by decide +kernel
theorem dX11_isWord_20 : decode cX11_isWord 20 = .ok (.istore 4, 2) := by decide +kernel
theorem dX11_isWord_22 : decode cX11_isWord 22 = .ok (.iload_n 3, 1) := by decide +kernel
theorem dX11_isWord_23 : decode cX11_isWord 23 = .ok (.ifCond .eq 48, 3) := by decide +kernel
theorem dX11_isWord_26 : decode cX11_isWord 26 = .ok (.iload 4, 2) := by decide +kernel
theorem dX11_isWord_28 : decode cX11_isWord 28 = .ok (.iload_n 2, 1) := by decide +kernel
theorem dX11_isWord_29 : decode cX11_isWord 29 = .ok (.if_icmp .ge 42, 3) := by decide +kernel
theorem dX11_isWord_32 : decode cX11_isWord 32 = .ok (.aload_n 0, 1) := by decide +kernel
theorem dX11_isWord_33 : decode cX11_isWord 33 = .ok (.getfield 17, 3) := by decide +kernel
theorem dX11_isWord_36 : decode cX11_isWord 36 = .ok (.aload_n 0, 1) := by decide +kernel
theorem dX11_isWord_37 : decode cX11_isWord 37 = .ok (.getfield 92, 3) := by decide +kernel
theorem dX11_isWord_40 : decode cX11_isWord 40 = .ok (.iload 4, 2) := by decide +kernel
theorem dX11_isWord_42 : decode cX11_isWord 42 = .ok (.iadd, 1) := by decide +kernel
theorem dX11_isWord_43 : decode cX11_isWord 43 = .ok (.iaload, 1) := by decide +kernel
theorem dX11_isWord_44 : decode cX11_isWord 44 = .ok (.bipush 96, 2) := by decide +kernel
theorem dX11_isWord_46 : decode cX11_isWord 46 = .ok (.iload_n 1, 1) := by decide +kernel
theorem dX11_isWord_47 : decode cX11_isWord 47 = .ok (.iconst 5, 1) := by decide +kernel
theorem dX11_isWord_48 : decode cX11_isWord 48 = .ok (.iload 4, 2) := by decide +kernel
theorem dX11_isWord_50 : decode cX11_isWord 50 = .ok (.imul, 1) := by decide +kernel
theorem dX11_isWord_51 : decode cX11_isWord 51 = .ok (.ishr, 1) := by decide +kernel
theorem dX11_isWord_52 : decode cX11_isWord 52 = .ok (.bipush 31, 2) := by decide +kernel
theorem dX11_isWord_54 : decode cX11_isWord 54 = .ok (.iand, 1) := by decide +kernel
theorem dX11_isWord_55 : decode cX11_isWord 55 = .ok (.iadd, 1) := by decide +kernel
theorem dX11_isWord_56 : decode cX11_isWord 56 = .ok (.if_icmp .ne 7, 3) := by decide +kernel
theorem dX11_isWord_59 : decode cX11_isWord 59 = .ok (.iconst 1, 1) := by decide +kernel
theorem dX11_isWord_60 : decode cX11_isWord 60 = .ok (.goto 4, 3) := by decide +kernel
theorem dX11_isWord_63 : decode cX11_isWord 63 = .ok (.iconst 0, 1) := by decide +kernel
theorem dX11_isWord_64 : decode cX11_isWord 64 = .ok (.istore_n 3, 1) := by decide +kernel
theorem dX11_isWord_65 : decode cX11_isWord 65 = .ok (.iinc 4 1, 3) := by decide +kernel
theorem dX11_isWord_68 : decode cX11_isWord 68 = .ok (.goto (-46), 3) := by decide +kernel
theorem dX11_isWord_71 : decode cX11_isWord 71 = .ok (.iload_n 3, 1) := by decide +kernel
theorem dX11_isWord_72 : decode cX11_isWord 72 = .ok (.ireturn, 1) := by decide +kernel
theorem dX11_wordOf_0 : decode cX11_wordOf 0 = .ok (.aload_n 0, 1) := by decide +kernel
theorem dX11_wordOf_1 : decode cX11_wordOf 1 = .ok (.ldc 102, 2) := by decide +kernel
theorem dX11_wordOf_3 : decode cX11_wordOf 3 = .ok (.bipush 6, 2) := by decide +kernel
theorem dX11_wordOf_5 : decode cX11_wordOf 5 = .ok (.invokevirtual 103, 3) := by decide +kernel
theorem dX11_wordOf_8 : decode cX11_wordOf 8 = .ok (.ifCond .eq 7, 3) := by decide +kernel
theorem dX11_wordOf_11 : decode cX11_wordOf 11 = .ok (.iconst 0, 1) := by decide +kernel
theorem dX11_wordOf_12 : decode cX11_wordOf 12 = .ok (.goto 74, 3) := by decide +kernel
theorem dX11_wordOf_15 : decode cX11_wordOf 15 = .ok (.aload_n 0, 1) := by decide +kernel
theorem dX11_wordOf_16 : decode cX11_wordOf 16 = .ok (.ldc 107, 2) := by decide +kernel
theorem dX11_wordOf_18 : decode cX11_wordOf 18 = .ok (.iconst 4, 1) := by decide +kernel
theorem dX11_wordOf_19 : decode cX11_wordOf 19 = .ok (.invokevirtual 103, 3) := by decide +kernel
theorem dX11_wordOf_22 : decode cX11_wordOf 22 = .ok (.ifCond .eq 7, 3) := by decide +kernel
theorem dX11_wordOf_25 : decode cX11_wordOf 25 = .ok (.iconst 1, 1) := by decide +kernel
theorem dX11_wordOf_26 : decode cX11_wordOf 26 = .ok (.goto 60, 3) := by decide +kernel
theorem dX11_wordOf_29 : decode cX11_wordOf 29 = .ok (.aload_n 0, 1) := by decide +kernel
theorem dX11_wordOf_30 : decode cX11_wordOf 30 = .ok (.ldc 108, 2) := by decide +kernel
theorem dX11_wordOf_32 : decode cX11_wordOf 32 = .ok (.iconst 4, 1) := by decide +kernel
theorem dX11_wordOf_33 : decode cX11_wordOf 33 = .ok (.invokevirtual 103, 3) := by decide +kernel
theorem dX11_wordOf_36 : decode cX11_wordOf 36 = .ok (.ifCond .eq 7, 3) := by decide +kernel
theorem dX11_wordOf_39 : decode cX11_wordOf 39 = .ok (.iconst 2, 1) := by decide +kernel
theorem dX11_wordOf_40 : decode cX11_wordOf 40 = .ok (.goto 46, 3) := by decide +kernel
theorem dX11_wordOf_43 : decode cX11_wordOf 43 = .ok (.aload_n 0, 1) := by decide +kernel
theorem dX11_wordOf_44 : decode cX11_wordOf 44 = .ok (.ldc 109, 2) := by decide +kernel
theorem dX11_wordOf_46 : decode cX11_wordOf 46 = .ok (.iconst 5, 1) := by decide +kernel
theorem dX11_wordOf_47 : decode cX11_wordOf 47 = .ok (.invokevirtual 103, 3) := by decide +kernel
theorem dX11_wordOf_50 : decode cX11_wordOf 50 = .ok (.ifCond .eq 7, 3) := by decide +kernel
theorem dX11_wordOf_53 : decode cX11_wordOf 53 = .ok (.iconst 3, 1) := by decide +kernel
theorem dX11_wordOf_54 : decode cX11_wordOf 54 = .ok (.goto 32, 3) := by decide +kernel
theorem dX11_wordOf_57 : decode cX11_wordOf 57 = .ok (.aload_n 0, 1) := by decide +kernel
theorem dX11_wordOf_58 : decode cX11_wordOf 58 = .ok (.ldc 110, 2) := by decide +kernel
theorem dX11_wordOf_60 : decode cX11_wordOf 60 = .ok (.iconst 4, 1) := by decide +kernel
theorem dX11_wordOf_61 : decode cX11_wordOf 61 = .ok (.invokevirtual 103, 3) := by decide +kernel
theorem dX11_wordOf_64 : decode cX11_wordOf 64 = .ok (.ifCond .eq 7, 3) := by decide +kernel
theorem dX11_wordOf_67 : decode cX11_wordOf 67 = .ok (.iconst 4, 1) := by decide +kernel
theorem dX11_wordOf_68 : decode cX11_wordOf 68 = .ok (.goto 18, 3) := by decide +kernel
theorem dX11_wordOf_71 : decode cX11_wordOf 71 = .ok (.aload_n 0, 1) := by decide +kernel
theorem dX11_wordOf_72 : decode cX11_wordOf 72 = .ok (.ldc 111, 2) := by decide +kernel
theorem dX11_wordOf_74 : decode cX11_wordOf 74 = .ok (.iconst 4, 1) := by decide +kernel
theorem dX11_wordOf_75 : decode cX11_wordOf 75 = .ok (.invokevirtual 103, 3) := by decide +kernel
theorem dX11_wordOf_78 : decode cX11_wordOf 78 = .ok (.ifCond .eq 7, 3) := by decide +kernel
theorem dX11_wordOf_81 : decode cX11_wordOf 81 = .ok (.iconst 5, 1) := by decide +kernel
theorem dX11_wordOf_82 : decode cX11_wordOf 82 = .ok (.goto 4, 3) := by decide +kernel
theorem dX11_wordOf_85 : decode cX11_wordOf 85 = .ok (.iconst (-1), 1) := by decide +kernel
theorem dX11_wordOf_86 : decode cX11_wordOf 86 = .ok (.ireturn, 1) := by decide +kernel
theorem dX11_reads_0 : decode cX11_reads 0 = .ok (.aload_n 0, 1) := by decide +kernel
theorem dX11_reads_1 : decode cX11_reads 1 = .ok (.getfield 92, 3) := by decide +kernel
theorem dX11_reads_4 : decode cX11_reads 4 = .ok (.aload_n 0, 1) := by decide +kernel
theorem dX11_reads_5 : decode cX11_reads 5 = .ok (.getfield 84, 3) := by decide +kernel
theorem dX11_reads_8 : decode cX11_reads 8 = .ok (.if_icmp .eq 32, 3) := by decide +kernel
theorem dX11_reads_11 : decode cX11_reads 11 = .ok (.aload_n 0, 1) := by decide +kernel
theorem dX11_reads_12 : decode cX11_reads 12 = .ok (.getfield 17, 3) := by decide +kernel
theorem dX11_reads_15 : decode cX11_reads 15 = .ok (.aload_n 0, 1) := by decide +kernel
theorem dX11_reads_16 : decode cX11_reads 16 = .ok (.getfield 92, 3) := by decide +kernel
theorem dX11_reads_19 : decode cX11_reads 19 = .ok (.iaload, 1) := by decide +kernel
theorem dX11_reads_20 : decode cX11_reads 20 = .ok (.invokestatic 95, 3) := by decide +kernel
theorem dX11_reads_23 : decode cX11_reads 23 = .ok (.iconst 2, 1) := by decide +kernel
theorem dX11_reads_24 : decode cX11_reads 24 = .ok (.if_icmp .ne 16, 3) := by decide +kernel
theorem dX11_reads_27 : decode cX11_reads 27 = .ok (.aload_n 0, 1) := by decide +kernel
theorem dX11_reads_28 : decode cX11_reads 28 = .ok (.getfield 99, 3) := by decide +kernel
theorem dX11_reads_31 : decode cX11_reads 31 = .ok (.aload_n 0, 1) := by decide +kernel
theorem dX11_reads_32 : decode cX11_reads 32 = .ok (.getfield 92, 3) := by decide +kernel
theorem dX11_reads_35 : decode cX11_reads 35 = .ok (.isub, 1) := by decide +kernel
theorem dX11_reads_36 : decode cX11_reads 36 = .ok (.iconst 2, 1) := by decide +kernel
theorem dX11_reads_37 : decode cX11_reads 37 = .ok (.if_icmp .le 5, 3) := by decide +kernel
theorem dX11_reads_40 : decode cX11_reads 40 = .ok (.iconst 0, 1) := by decide +kernel
theorem dX11_reads_41 : decode cX11_reads 41 = .ok (.ireturn, 1) := by decide +kernel
theorem dX11_reads_42 : decode cX11_reads 42 = .ok (.iconst 0, 1) := by decide +kernel
theorem dX11_reads_43 : decode cX11_reads 43 = .ok (.istore 4, 2) := by decide +kernel
theorem dX11_reads_45 : decode cX11_reads 45 = .ok (.aload_n 0, 1) := by decide +kernel
theorem dX11_reads_46 : decode cX11_reads 46 = .ok (.getfield 92, 3) := by decide +kernel
theorem dX11_reads_49 : decode cX11_reads 49 = .ok (.istore 5, 2) := by decide +kernel
theorem dX11_reads_51 : decode cX11_reads 51 = .ok (.iload 5, 2) := by decide +kernel
theorem dX11_reads_53 : decode cX11_reads 53 = .ok (.aload_n 0, 1) := by decide +kernel
theorem dX11_reads_54 : decode cX11_reads 54 = .ok (.getfield 99, 3) := by decide +kernel
theorem dX11_reads_57 : decode cX11_reads 57 = .ok (.if_icmp .ge 27, 3) := by decide +kernel
theorem dX11_reads_60 : decode cX11_reads 60 = .ok (.bipush 10, 2) := by decide +kernel
theorem dX11_reads_62 : decode cX11_reads 62 = .ok (.iload 4, 2) := by decide +kernel
theorem dX11_reads_64 : decode cX11_reads 64 = .ok (.imul, 1) := by decide +kernel
theorem dX11_reads_65 : decode cX11_reads 65 = .ok (.aload_n 0, 1) := by decide +kernel
theorem dX11_reads_66 : decode cX11_reads 66 = .ok (.getfield 17, 3) := by decide +kernel
theorem dX11_reads_69 : decode cX11_reads 69 = .ok (.iload 5, 2) := by decide +kernel
theorem dX11_reads_71 : decode cX11_reads 71 = .ok (.iaload, 1) := by decide +kernel
theorem dX11_reads_72 : decode cX11_reads 72 = .ok (.iadd, 1) := by decide +kernel
theorem dX11_reads_73 : decode cX11_reads 73 = .ok (.bipush 48, 2) := by decide +kernel
theorem dX11_reads_75 : decode cX11_reads 75 = .ok (.isub, 1) := by decide +kernel
theorem dX11_reads_76 : decode cX11_reads 76 = .ok (.istore 4, 2) := by decide +kernel
theorem dX11_reads_78 : decode cX11_reads 78 = .ok (.iinc 5 1, 3) := by decide +kernel
theorem dX11_reads_81 : decode cX11_reads 81 = .ok (.goto (-30), 3) := by decide +kernel
theorem dX11_reads_84 : decode cX11_reads 84 = .ok (.iload 4, 2) := by decide +kernel
theorem dX11_reads_86 : decode cX11_reads 86 = .ok (.i2l, 1) := by decide +kernel
theorem dX11_reads_87 : decode cX11_reads 87 = .ok (.iload_n 2, 1) := by decide +kernel
theorem dX11_reads_88 : decode cX11_reads 88 = .ok (.i2l, 1) := by decide +kernel
theorem dX11_reads_89 : decode cX11_reads 89 = .ok (.iload_n 3, 1) := by decide +kernel
theorem dX11_reads_90 : decode cX11_reads 90 = .ok (.i2l, 1) := by decide +kernel
theorem dX11_reads_91 : decode cX11_reads 91 = .ok (.invokestatic 80, 3) := by decide +kernel
theorem dX11_reads_94 : decode cX11_reads 94 = .ok (.ifCond .ne 5, 3) := by decide +kernel
theorem dX11_reads_97 : decode cX11_reads 97 = .ok (.iconst 0, 1) := by decide +kernel
theorem dX11_reads_98 : decode cX11_reads 98 = .ok (.ireturn, 1) := by decide +kernel
theorem dX11_reads_99 : decode cX11_reads 99 = .ok (.aload_n 0, 1) := by decide +kernel
theorem dX11_reads_100 : decode cX11_reads 100 = .ok (.getfield 20, 3) := by decide +kernel
theorem dX11_reads_103 : decode cX11_reads 103 = .ok (.bipush 6, 2) := by decide +kernel
theorem dX11_reads_105 : decode cX11_reads 105 = .ok (.aload_n 0, 1) := by decide +kernel
theorem dX11_reads_106 : decode cX11_reads 106 = .ok (.getfield 112, 3) := by decide +kernel
theorem dX11_reads_109 : decode cX11_reads 109 = .ok (.imul, 1) := by decide +kernel
theorem dX11_reads_110 : decode cX11_reads 110 = .ok (.iconst 1, 1) := by decide +kernel
theorem dX11_reads_111 : decode cX11_reads 111 = .ok (.iadd, 1) := by decide +kernel
theorem dX11_reads_112 : decode cX11_reads 112 = .ok (.iload_n 1, 1) := by decide +kernel
theorem dX11_reads_113 : decode cX11_reads 113 = .ok (.iadd, 1) := by decide +kernel
theorem dX11_reads_114 : decode cX11_reads 114 = .ok (.iload 4, 2) := by decide +kernel
theorem dX11_reads_116 : decode cX11_reads 116 = .ok (.iastore, 1) := by decide +kernel
theorem dX11_reads_117 : decode cX11_reads 117 = .ok (.aload_n 0, 1) := by decide +kernel
theorem dX11_reads_118 : decode cX11_reads 118 = .ok (.invokevirtual 115, 3) := by decide +kernel
theorem dX11_reads_121 : decode cX11_reads 121 = .ok (.iconst 1, 1) := by decide +kernel
theorem dX11_reads_122 : decode cX11_reads 122 = .ok (.ireturn, 1) := by decide +kernel
theorem dX11_readsBread_0 : decode cX11_readsBread 0 = .ok (.aload_n 0, 1) := by decide +kernel
theorem dX11_readsBread_1 : decode cX11_readsBread 1 = .ok (.getfield 92, 3) := by decide +kernel
theorem dX11_readsBread_4 : decode cX11_readsBread 4 = .ok (.aload_n 0, 1) := by decide +kernel
theorem dX11_readsBread_5 : decode cX11_readsBread 5 = .ok (.getfield 84, 3) := by decide +kernel
theorem dX11_readsBread_8 : decode cX11_readsBread 8 = .ok (.if_icmp .ge 40, 3) := by decide +kernel
theorem dX11_readsBread_11 : decode cX11_readsBread 11 = .ok (.aload_n 0, 1) := by decide +kernel
theorem dX11_readsBread_12 : decode cX11_readsBread 12 = .ok (.getfield 17, 3) := by decide +kernel
theorem dX11_readsBread_15 : decode cX11_readsBread 15 = .ok (.aload_n 0, 1) := by decide +kernel
theorem dX11_readsBread_16 : decode cX11_readsBread 16 = .ok (.getfield 92, 3) := by decide +kernel
theorem dX11_readsBread_19 : decode cX11_readsBread 19 = .ok (.iaload, 1) := by decide +kernel
theorem dX11_readsBread_20 : decode cX11_readsBread 20 = .ok (.bipush 45, 2) := by decide +kernel
theorem dX11_readsBread_22 : decode cX11_readsBread 22 = .ok (.if_icmp .ne 26, 3) := by decide +kernel
theorem dX11_readsBread_25 : decode cX11_readsBread 25 = .ok (.aload_n 0, 1) := by decide +kernel
theorem dX11_readsBread_26 : decode cX11_readsBread 26 = .ok (.getfield 20, 3) := by decide +kernel
theorem dX11_readsBread_29 : decode cX11_readsBread 29 = .ok (.bipush 6, 2) := by decide +kernel
theorem dX11_readsBread_31 : decode cX11_readsBread 31 = .ok (.aload_n 0, 1) := by decide +kernel
theorem dX11_readsBread_32 : decode cX11_readsBread 32 = .ok (.getfield 112, 3) := by decide +kernel
theorem dX11_readsBread_35 : decode cX11_readsBread 35 = .ok (.imul, 1) := by decide +kernel
theorem dX11_readsBread_36 : decode cX11_readsBread 36 = .ok (.iconst 1, 1) := by decide +kernel
theorem dX11_readsBread_37 : decode cX11_readsBread 37 = .ok (.iadd, 1) := by decide +kernel
theorem dX11_readsBread_38 : decode cX11_readsBread 38 = .ok (.iload_n 1, 1) := by decide +kernel
theorem dX11_readsBread_39 : decode cX11_readsBread 39 = .ok (.iadd, 1) := by decide +kernel
theorem dX11_readsBread_40 : decode cX11_readsBread 40 = .ok (.iconst (-1), 1) := by decide +kernel
theorem dX11_readsBread_41 : decode cX11_readsBread 41 = .ok (.iastore, 1) := by decide +kernel
theorem dX11_readsBread_42 : decode cX11_readsBread 42 = .ok (.aload_n 0, 1) := by decide +kernel
theorem dX11_readsBread_43 : decode cX11_readsBread 43 = .ok (.invokevirtual 115, 3) := by decide +kernel
theorem dX11_readsBread_46 : decode cX11_readsBread 46 = .ok (.iconst 1, 1) := by decide +kernel
theorem dX11_readsBread_47 : decode cX11_readsBread 47 = .ok (.ireturn, 1) := by decide +kernel
theorem dX11_readsBread_48 : decode cX11_readsBread 48 = .ok (.aload_n 0, 1) := by decide +kernel
theorem dX11_readsBread_49 : decode cX11_readsBread 49 = .ok (.iload_n 1, 1) := by decide +kernel
theorem dX11_readsBread_50 : decode cX11_readsBread 50 = .ok (.iconst 0, 1) := by decide +kernel
theorem dX11_readsBread_51 : decode cX11_readsBread 51 = .ok (.bipush 20, 2) := by decide +kernel
theorem dX11_readsBread_53 : decode cX11_readsBread 53 = .ok (.invokevirtual 118, 3) := by decide +kernel
theorem dX11_readsBread_56 : decode cX11_readsBread 56 = .ok (.ireturn, 1) := by decide +kernel
theorem dX11_readsWork_0 : decode cX11_readsWork 0 = .ok (.bipush 6, 2) := by decide +kernel
theorem dX11_readsWork_2 : decode cX11_readsWork 2 = .ok (.aload_n 0, 1) := by decide +kernel
theorem dX11_readsWork_3 : decode cX11_readsWork 3 = .ok (.getfield 112, 3) := by decide +kernel
theorem dX11_readsWork_6 : decode cX11_readsWork 6 = .ok (.imul, 1) := by decide +kernel
theorem dX11_readsWork_7 : decode cX11_readsWork 7 = .ok (.iconst 1, 1) := by decide +kernel
theorem dX11_readsWork_8 : decode cX11_readsWork 8 = .ok (.iadd, 1) := by decide +kernel
theorem dX11_readsWork_9 : decode cX11_readsWork 9 = .ok (.istore_n 1, 1) := by decide +kernel
theorem dX11_readsWork_10 : decode cX11_readsWork 10 = .ok (.aload_n 0, 1) := by decide +kernel
theorem dX11_readsWork_11 : decode cX11_readsWork 11 = .ok (.getfield 92, 3) := by decide +kernel
theorem dX11_readsWork_14 : decode cX11_readsWork 14 = .ok (.istore_n 2, 1) := by decide +kernel
theorem dX11_readsWork_15 : decode cX11_readsWork 15 = .ok (.aload_n 0, 1) := by decide +kernel
theorem dX11_readsWork_16 : decode cX11_readsWork 16 = .ok (.iconst 4, 1) := by decide +kernel
theorem dX11_readsWork_17 : decode cX11_readsWork 17 = .ok (.iconst 0, 1) := by decide +kernel
theorem dX11_readsWork_18 : decode cX11_readsWork 18 = .ok (.iconst 5, 1) := by decide +kernel
theorem dX11_readsWork_19 : decode cX11_readsWork 19 = .ok (.invokevirtual 118, 3) := by decide +kernel
theorem dX11_readsWork_22 : decode cX11_readsWork 22 = .ok (.ifCond .ne 5, 3) := by decide +kernel
theorem dX11_readsWork_25 : decode cX11_readsWork 25 = .ok (.iconst 0, 1) := by decide +kernel
theorem dX11_readsWork_26 : decode cX11_readsWork 26 = .ok (.ireturn, 1) := by decide +kernel
theorem dX11_readsWork_27 : decode cX11_readsWork 27 = .ok (.aload_n 0, 1) := by decide +kernel
theorem dX11_readsWork_28 : decode cX11_readsWork 28 = .ok (.getfield 20, 3) := by decide +kernel
theorem dX11_readsWork_31 : decode cX11_readsWork 31 = .ok (.iload_n 1, 1) := by decide +kernel
theorem dX11_readsWork_32 : decode cX11_readsWork 32 = .ok (.iconst 4, 1) := by decide +kernel
theorem dX11_readsWork_33 : decode cX11_readsWork 33 = .ok (.iadd, 1) := by decide +kernel
theorem dX11_readsWork_34 : decode cX11_readsWork 34 = .ok (.iaload, 1) := by decide +kernel
theorem dX11_readsWork_35 : decode cX11_readsWork 35 = .ok (.istore_n 3, 1) := by decide +kernel
theorem dX11_readsWork_36 : decode cX11_readsWork 36 = .ok (.iload_n 3, 1) := by decide +kernel
theorem dX11_readsWork_37 : decode cX11_readsWork 37 = .ok (.iconst 5, 1) := by decide +kernel
theorem dX11_readsWork_38 : decode cX11_readsWork 38 = .ok (.if_icmp .ge 30, 3) := by decide +kernel
theorem dX11_readsWork_41 : decode cX11_readsWork 41 = .ok (.aload_n 0, 1) := by decide +kernel
theorem dX11_readsWork_42 : decode cX11_readsWork 42 = .ok (.getfield 42, 3) := by decide +kernel
theorem dX11_readsWork_45 : decode cX11_readsWork 45 = .ok (.iconst 2, 1) := by decide +kernel
theorem dX11_readsWork_46 : decode cX11_readsWork 46 = .ok (.iload_n 3, 1) := by decide +kernel
theorem dX11_readsWork_47 : decode cX11_readsWork 47 = .ok (.imul, 1) := by decide +kernel
theorem dX11_readsWork_48 : decode cX11_readsWork 48 = .ok (.aload_n 0, 1) := by decide +kernel
theorem dX11_readsWork_49 : decode cX11_readsWork 49 = .ok (.getfield 20, 3) := by decide +kernel
theorem dX11_readsWork_52 : decode cX11_readsWork 52 = .ok (.iload_n 1, 1) := by decide +kernel
theorem dX11_readsWork_53 : decode cX11_readsWork 53 = .ok (.iconst 1, 1) := by decide +kernel
theorem dX11_readsWork_54 : decode cX11_readsWork 54 = .ok (.iadd, 1) := by decide +kernel
theorem dX11_readsWork_55 : decode cX11_readsWork 55 = .ok (.iaload, 1) := by decide +kernel
theorem dX11_readsWork_56 : decode cX11_readsWork 56 = .ok (.iadd, 1) := by decide +kernel
theorem dX11_readsWork_57 : decode cX11_readsWork 57 = .ok (.baload, 1) := by decide +kernel
theorem dX11_readsWork_58 : decode cX11_readsWork 58 = .ok (.ifCond .ne 10, 3) := by decide +kernel
theorem dX11_readsWork_61 : decode cX11_readsWork 61 = .ok (.aload_n 0, 1) := by decide +kernel
theorem dX11_readsWork_62 : decode cX11_readsWork 62 = .ok (.iload_n 2, 1) := by decide +kernel
theorem dX11_readsWork_63 : decode cX11_readsWork 63 = .ok (.putfield 92, 3) := by decide +kernel
theorem dX11_readsWork_66 : decode cX11_readsWork 66 = .ok (.iconst 0, 1) := by decide +kernel
theorem dX11_readsWork_67 : decode cX11_readsWork 67 = .ok (.ireturn, 1) := by decide +kernel
theorem dX11_readsWork_68 : decode cX11_readsWork 68 = .ok (.iconst 1, 1) := by decide +kernel
theorem dX11_readsWork_69 : decode cX11_readsWork 69 = .ok (.ireturn, 1) := by decide +kernel
theorem dX11_readsRest_0 : decode cX11_readsRest 0 = .ok (.iload_n 1, 1) := by decide +kernel
theorem dX11_readsRest_1 : decode cX11_readsRest 1 = .ok (.tableswitch 218 0 4 #[35, 62, 115, 146, 209], 35) := by decide +kernel
theorem dX11_readsRest_36 : decode cX11_readsRest 36 = .ok (.aload_n 0, 1) := by decide +kernel
theorem dX11_readsRest_37 : decode cX11_readsRest 37 = .ok (.iconst 0, 1) := by decide +kernel
theorem dX11_readsRest_38 : decode cX11_readsRest 38 = .ok (.iconst 1, 1) := by decide +kernel
theorem dX11_readsRest_39 : decode cX11_readsRest 39 = .ok (.bipush 6, 2) := by decide +kernel
theorem dX11_readsRest_41 : decode cX11_readsRest 41 = .ok (.invokevirtual 118, 3) := by decide +kernel
theorem dX11_readsRest_44 : decode cX11_readsRest 44 = .ok (.ifCond .eq 17, 3) := by decide +kernel
theorem dX11_readsRest_47 : decode cX11_readsRest 47 = .ok (.aload_n 0, 1) := by decide +kernel
theorem dX11_readsRest_48 : decode cX11_readsRest 48 = .ok (.iconst 1, 1) := by decide +kernel
theorem dX11_readsRest_49 : decode cX11_readsRest 49 = .ok (.iconst 1, 1) := by decide +kernel
theorem dX11_readsRest_50 : decode cX11_readsRest 50 = .ok (.iconst 4, 1) := by decide +kernel
theorem dX11_readsRest_51 : decode cX11_readsRest 51 = .ok (.invokevirtual 118, 3) := by decide +kernel
theorem dX11_readsRest_54 : decode cX11_readsRest 54 = .ok (.ifCond .eq 7, 3) := by decide +kernel
theorem dX11_readsRest_57 : decode cX11_readsRest 57 = .ok (.iconst 1, 1) := by decide +kernel
theorem dX11_readsRest_58 : decode cX11_readsRest 58 = .ok (.goto 4, 3) := by decide +kernel
theorem dX11_readsRest_61 : decode cX11_readsRest 61 = .ok (.iconst 0, 1) := by decide +kernel
theorem dX11_readsRest_62 : decode cX11_readsRest 62 = .ok (.ireturn, 1) := by decide +kernel
theorem dX11_readsRest_63 : decode cX11_readsRest 63 = .ok (.aload_n 0, 1) := by decide +kernel
theorem dX11_readsRest_64 : decode cX11_readsRest 64 = .ok (.iconst 0, 1) := by decide +kernel
theorem dX11_readsRest_65 : decode cX11_readsRest 65 = .ok (.iconst 0, 1) := by decide +kernel
theorem dX11_readsRest_66 : decode cX11_readsRest 66 = .ok (.iconst 4, 1) := by decide +kernel
theorem dX11_readsRest_67 : decode cX11_readsRest 67 = .ok (.invokevirtual 118, 3) := by decide +kernel
theorem dX11_readsRest_70 : decode cX11_readsRest 70 = .ok (.ifCond .eq 44, 3) := by decide +kernel
theorem dX11_readsRest_73 : decode cX11_readsRest 73 = .ok (.aload_n 0, 1) := by decide +kernel
theorem dX11_readsRest_74 : decode cX11_readsRest 74 = .ok (.iconst 1, 1) := by decide +kernel
theorem dX11_readsRest_75 : decode cX11_readsRest 75 = .ok (.iconst 0, 1) := by decide +kernel
theorem dX11_readsRest_76 : decode cX11_readsRest 76 = .ok (.iconst 3, 1) := by decide +kernel
theorem dX11_readsRest_77 : decode cX11_readsRest 77 = .ok (.invokevirtual 118, 3) := by decide +kernel
theorem dX11_readsRest_80 : decode cX11_readsRest 80 = .ok (.ifCond .eq 34, 3) := by decide +kernel
theorem dX11_readsRest_83 : decode cX11_readsRest 83 = .ok (.aload_n 0, 1) := by decide +kernel
theorem dX11_readsRest_84 : decode cX11_readsRest 84 = .ok (.iconst 2, 1) := by decide +kernel
theorem dX11_readsRest_85 : decode cX11_readsRest 85 = .ok (.invokevirtual 122, 3) := by decide +kernel
theorem dX11_readsRest_88 : decode cX11_readsRest 88 = .ok (.ifCond .eq 26, 3) := by decide +kernel
theorem dX11_readsRest_91 : decode cX11_readsRest 91 = .ok (.aload_n 0, 1) := by decide +kernel
theorem dX11_readsRest_92 : decode cX11_readsRest 92 = .ok (.iconst 3, 1) := by decide +kernel
theorem dX11_readsRest_93 : decode cX11_readsRest 93 = .ok (.invokevirtual 122, 3) := by decide +kernel
theorem dX11_readsRest_96 : decode cX11_readsRest 96 = .ok (.ifCond .eq 18, 3) := by decide +kernel
theorem dX11_readsRest_99 : decode cX11_readsRest 99 = .ok (.aload_n 0, 1) := by decide +kernel
theorem dX11_readsRest_100 : decode cX11_readsRest 100 = .ok (.iconst 4, 1) := by decide +kernel
theorem dX11_readsRest_101 : decode cX11_readsRest 101 = .ok (.iconst 0, 1) := by decide +kernel
theorem dX11_readsRest_102 : decode cX11_readsRest 102 = .ok (.bipush 20, 2) := by decide +kernel
theorem dX11_readsRest_104 : decode cX11_readsRest 104 = .ok (.invokevirtual 118, 3) := by decide +kernel
theorem dX11_readsRest_107 : decode cX11_readsRest 107 = .ok (.ifCond .eq 7, 3) := by decide +kernel
theorem dX11_readsRest_110 : decode cX11_readsRest 110 = .ok (.iconst 1, 1) := by decide +kernel
theorem dX11_readsRest_111 : decode cX11_readsRest 111 = .ok (.goto 4, 3) := by decide +kernel
theorem dX11_readsRest_114 : decode cX11_readsRest 114 = .ok (.iconst 0, 1) := by decide +kernel
theorem dX11_readsRest_115 : decode cX11_readsRest 115 = .ok (.ireturn, 1) := by decide +kernel
theorem dX11_readsRest_116 : decode cX11_readsRest 116 = .ok (.aload_n 0, 1) := by decide +kernel
theorem dX11_readsRest_117 : decode cX11_readsRest 117 = .ok (.iconst 0, 1) := by decide +kernel
theorem dX11_readsRest_118 : decode cX11_readsRest 118 = .ok (.iconst 0, 1) := by decide +kernel
theorem dX11_readsRest_119 : decode cX11_readsRest 119 = .ok (.aload_n 0, 1) := by decide +kernel
theorem dX11_readsRest_120 : decode cX11_readsRest 120 = .ok (.getfield 126, 3) := by decide +kernel
theorem dX11_readsRest_123 : decode cX11_readsRest 123 = .ok (.iconst 1, 1) := by decide +kernel
theorem dX11_readsRest_124 : decode cX11_readsRest 124 = .ok (.isub, 1) := by decide +kernel
theorem dX11_readsRest_125 : decode cX11_readsRest 125 = .ok (.invokevirtual 118, 3) := by decide +kernel
theorem dX11_readsRest_128 : decode cX11_readsRest 128 = .ok (.ifCond .eq 17, 3) := by decide +kernel
theorem dX11_readsRest_131 : decode cX11_readsRest 131 = .ok (.aload_n 0, 1) := by decide +kernel
theorem dX11_readsRest_132 : decode cX11_readsRest 132 = .ok (.iconst 1, 1) := by decide +kernel
theorem dX11_readsRest_133 : decode cX11_readsRest 133 = .ok (.iconst 0, 1) := by decide +kernel
theorem dX11_readsRest_134 : decode cX11_readsRest 134 = .ok (.iconst 3, 1) := by decide +kernel
theorem dX11_readsRest_135 : decode cX11_readsRest 135 = .ok (.invokevirtual 118, 3) := by decide +kernel
theorem dX11_readsRest_138 : decode cX11_readsRest 138 = .ok (.ifCond .eq 7, 3) := by decide +kernel
theorem dX11_readsRest_141 : decode cX11_readsRest 141 = .ok (.iconst 1, 1) := by decide +kernel
theorem dX11_readsRest_142 : decode cX11_readsRest 142 = .ok (.goto 4, 3) := by decide +kernel
theorem dX11_readsRest_145 : decode cX11_readsRest 145 = .ok (.iconst 0, 1) := by decide +kernel
theorem dX11_readsRest_146 : decode cX11_readsRest 146 = .ok (.ireturn, 1) := by decide +kernel
theorem dX11_readsRest_147 : decode cX11_readsRest 147 = .ok (.aload_n 0, 1) := by decide +kernel
theorem dX11_readsRest_148 : decode cX11_readsRest 148 = .ok (.iconst 0, 1) := by decide +kernel
theorem dX11_readsRest_149 : decode cX11_readsRest 149 = .ok (.iconst 0, 1) := by decide +kernel
theorem dX11_readsRest_150 : decode cX11_readsRest 150 = .ok (.iconst 1, 1) := by decide +kernel
theorem dX11_readsRest_151 : decode cX11_readsRest 151 = .ok (.invokevirtual 118, 3) := by decide +kernel
theorem dX11_readsRest_154 : decode cX11_readsRest 154 = .ok (.ifCond .eq 54, 3) := by decide +kernel
theorem dX11_readsRest_157 : decode cX11_readsRest 157 = .ok (.aload_n 0, 1) := by decide +kernel
theorem dX11_readsRest_158 : decode cX11_readsRest 158 = .ok (.iconst 1, 1) := by decide +kernel
theorem dX11_readsRest_159 : decode cX11_readsRest 159 = .ok (.iconst 0, 1) := by decide +kernel
theorem dX11_readsRest_160 : decode cX11_readsRest 160 = .ok (.iconst 1, 1) := by decide +kernel
theorem dX11_readsRest_161 : decode cX11_readsRest 161 = .ok (.invokevirtual 118, 3) := by decide +kernel
theorem dX11_readsRest_164 : decode cX11_readsRest 164 = .ok (.ifCond .eq 44, 3) := by decide +kernel
theorem dX11_readsRest_167 : decode cX11_readsRest 167 = .ok (.aload_n 0, 1) := by decide +kernel
theorem dX11_readsRest_168 : decode cX11_readsRest 168 = .ok (.iconst 2, 1) := by decide +kernel
theorem dX11_readsRest_169 : decode cX11_readsRest 169 = .ok (.iconst 0, 1) := by decide +kernel
theorem dX11_readsRest_170 : decode cX11_readsRest 170 = .ok (.aload_n 0, 1) := by decide +kernel
theorem dX11_readsRest_171 : decode cX11_readsRest 171 = .ok (.getfield 126, 3) := by decide +kernel
theorem dX11_readsRest_174 : decode cX11_readsRest 174 = .ok (.iconst 1, 1) := by decide +kernel
theorem dX11_readsRest_175 : decode cX11_readsRest 175 = .ok (.isub, 1) := by decide +kernel
theorem dX11_readsRest_176 : decode cX11_readsRest 176 = .ok (.invokevirtual 118, 3) := by decide +kernel
theorem dX11_readsRest_179 : decode cX11_readsRest 179 = .ok (.ifCond .eq 29, 3) := by decide +kernel
theorem dX11_readsRest_182 : decode cX11_readsRest 182 = .ok (.aload_n 0, 1) := by decide +kernel
theorem dX11_readsRest_183 : decode cX11_readsRest 183 = .ok (.iconst 3, 1) := by decide +kernel
theorem dX11_readsRest_184 : decode cX11_readsRest 184 = .ok (.iconst 0, 1) := by decide +kernel
theorem dX11_readsRest_185 : decode cX11_readsRest 185 = .ok (.aload_n 0, 1) := by decide +kernel
theorem dX11_readsRest_186 : decode cX11_readsRest 186 = .ok (.getfield 129, 3) := by decide +kernel
theorem dX11_readsRest_189 : decode cX11_readsRest 189 = .ok (.iconst 1, 1) := by decide +kernel
theorem dX11_readsRest_190 : decode cX11_readsRest 190 = .ok (.isub, 1) := by decide +kernel
theorem dX11_readsRest_191 : decode cX11_readsRest 191 = .ok (.invokevirtual 118, 3) := by decide +kernel
theorem dX11_readsRest_194 : decode cX11_readsRest 194 = .ok (.ifCond .eq 14, 3) := by decide +kernel
theorem dX11_readsRest_197 : decode cX11_readsRest 197 = .ok (.aload_n 0, 1) := by decide +kernel
theorem dX11_readsRest_198 : decode cX11_readsRest 198 = .ok (.invokevirtual 132, 3) := by decide +kernel
theorem dX11_readsRest_201 : decode cX11_readsRest 201 = .ok (.ifCond .eq 7, 3) := by decide +kernel
theorem dX11_readsRest_204 : decode cX11_readsRest 204 = .ok (.iconst 1, 1) := by decide +kernel
theorem dX11_readsRest_205 : decode cX11_readsRest 205 = .ok (.goto 4, 3) := by decide +kernel
theorem dX11_readsRest_208 : decode cX11_readsRest 208 = .ok (.iconst 0, 1) := by decide +kernel
theorem dX11_readsRest_209 : decode cX11_readsRest 209 = .ok (.ireturn, 1) := by decide +kernel
theorem dX11_readsRest_210 : decode cX11_readsRest 210 = .ok (.aload_n 0, 1) := by decide +kernel
theorem dX11_readsRest_211 : decode cX11_readsRest 211 = .ok (.iconst 0, 1) := by decide +kernel
theorem dX11_readsRest_212 : decode cX11_readsRest 212 = .ok (.iconst 0, 1) := by decide +kernel
theorem dX11_readsRest_213 : decode cX11_readsRest 213 = .ok (.bipush 20, 2) := by decide +kernel
theorem dX11_readsRest_215 : decode cX11_readsRest 215 = .ok (.invokevirtual 118, 3) := by decide +kernel
theorem dX11_readsRest_218 : decode cX11_readsRest 218 = .ok (.ireturn, 1) := by decide +kernel
theorem dX11_readsRest_219 : decode cX11_readsRest 219 = .ok (.aload_n 0, 1) := by decide +kernel
theorem dX11_readsRest_220 : decode cX11_readsRest 220 = .ok (.iconst 0, 1) := by decide +kernel
theorem dX11_readsRest_221 : decode cX11_readsRest 221 = .ok (.iconst 0, 1) := by decide +kernel
theorem dX11_readsRest_222 : decode cX11_readsRest 222 = .ok (.bipush 99, 2) := by decide +kernel
theorem dX11_readsRest_224 : decode cX11_readsRest 224 = .ok (.invokevirtual 118, 3) := by decide +kernel
theorem dX11_readsRest_227 : decode cX11_readsRest 227 = .ok (.ireturn, 1) := by decide +kernel
theorem dX11_readsLine_0 : decode cX11_readsLine 0 = .ok (.aload_n 0, 1) := by decide +kernel
theorem dX11_readsLine_1 : decode cX11_readsLine 1 = .ok (.invokevirtual 136, 3) := by decide +kernel
theorem dX11_readsLine_4 : decode cX11_readsLine 4 = .ok (.istore_n 1, 1) := by decide +kernel
theorem dX11_readsLine_5 : decode cX11_readsLine 5 = .ok (.iload_n 1, 1) := by decide +kernel
theorem dX11_readsLine_6 : decode cX11_readsLine 6 = .ok (.iconst (-1), 1) := by decide +kernel
theorem dX11_readsLine_7 : decode cX11_readsLine 7 = .ok (.if_icmp .ne 5, 3) := by decide +kernel
theorem dX11_readsLine_10 : decode cX11_readsLine 10 = .ok (.iconst 0, 1) := by decide +kernel
theorem dX11_readsLine_11 : decode cX11_readsLine 11 = .ok (.ireturn, 1) := by decide +kernel
theorem dX11_readsLine_12 : decode cX11_readsLine 12 = .ok (.aload_n 0, 1) := by decide +kernel
theorem dX11_readsLine_13 : decode cX11_readsLine 13 = .ok (.invokevirtual 115, 3) := by decide +kernel
theorem dX11_readsLine_16 : decode cX11_readsLine 16 = .ok (.bipush 6, 2) := by decide +kernel
theorem dX11_readsLine_18 : decode cX11_readsLine 18 = .ok (.aload_n 0, 1) := by decide +kernel
theorem dX11_readsLine_19 : decode cX11_readsLine 19 = .ok (.getfield 112, 3) := by decide +kernel
theorem dX11_readsLine_22 : decode cX11_readsLine 22 = .ok (.imul, 1) := by decide +kernel
theorem dX11_readsLine_23 : decode cX11_readsLine 23 = .ok (.istore_n 2, 1) := by decide +kernel
theorem dX11_readsLine_24 : decode cX11_readsLine 24 = .ok (.aload_n 0, 1) := by decide +kernel
theorem dX11_readsLine_25 : decode cX11_readsLine 25 = .ok (.getfield 20, 3) := by decide +kernel
theorem dX11_readsLine_28 : decode cX11_readsLine 28 = .ok (.iload_n 2, 1) := by decide +kernel
theorem dX11_readsLine_29 : decode cX11_readsLine 29 = .ok (.iload_n 1, 1) := by decide +kernel
theorem dX11_readsLine_30 : decode cX11_readsLine 30 = .ok (.iastore, 1) := by decide +kernel
theorem dX11_readsLine_31 : decode cX11_readsLine 31 = .ok (.aload_n 0, 1) := by decide +kernel
theorem dX11_readsLine_32 : decode cX11_readsLine 32 = .ok (.iload_n 1, 1) := by decide +kernel
theorem dX11_readsLine_33 : decode cX11_readsLine 33 = .ok (.invokevirtual 140, 3) := by decide +kernel
theorem dX11_readsLine_36 : decode cX11_readsLine 36 = .ok (.ifCond .ne 5, 3) := by decide +kernel
theorem dX11_readsLine_39 : decode cX11_readsLine 39 = .ok (.iconst 0, 1) := by decide +kernel
theorem dX11_readsLine_40 : decode cX11_readsLine 40 = .ok (.ireturn, 1) := by decide +kernel
theorem dX11_readsLine_41 : decode cX11_readsLine 41 = .ok (.iload_n 1, 1) := by decide +kernel
theorem dX11_readsLine_42 : decode cX11_readsLine 42 = .ok (.ifCond .ne 30, 3) := by decide +kernel
theorem dX11_readsLine_45 : decode cX11_readsLine 45 = .ok (.aload_n 0, 1) := by decide +kernel
theorem dX11_readsLine_46 : decode cX11_readsLine 46 = .ok (.aload_n 0, 1) := by decide +kernel
theorem dX11_readsLine_47 : decode cX11_readsLine 47 = .ok (.getfield 20, 3) := by decide +kernel
theorem dX11_readsLine_50 : decode cX11_readsLine 50 = .ok (.iload_n 2, 1) := by decide +kernel
theorem dX11_readsLine_51 : decode cX11_readsLine 51 = .ok (.iconst 1, 1) := by decide +kernel
theorem dX11_readsLine_52 : decode cX11_readsLine 52 = .ok (.iadd, 1) := by decide +kernel
theorem dX11_readsLine_53 : decode cX11_readsLine 53 = .ok (.iaload, 1) := by decide +kernel
theorem dX11_readsLine_54 : decode cX11_readsLine 54 = .ok (.putfield 126, 3) := by decide +kernel
theorem dX11_readsLine_57 : decode cX11_readsLine 57 = .ok (.aload_n 0, 1) := by decide +kernel
theorem dX11_readsLine_58 : decode cX11_readsLine 58 = .ok (.aload_n 0, 1) := by decide +kernel
theorem dX11_readsLine_59 : decode cX11_readsLine 59 = .ok (.getfield 20, 3) := by decide +kernel
theorem dX11_readsLine_62 : decode cX11_readsLine 62 = .ok (.iload_n 2, 1) := by decide +kernel
theorem dX11_readsLine_63 : decode cX11_readsLine 63 = .ok (.iconst 2, 1) := by decide +kernel
theorem dX11_readsLine_64 : decode cX11_readsLine 64 = .ok (.iadd, 1) := by decide +kernel
theorem dX11_readsLine_65 : decode cX11_readsLine 65 = .ok (.iaload, 1) := by decide +kernel
theorem dX11_readsLine_66 : decode cX11_readsLine 66 = .ok (.putfield 129, 3) := by decide +kernel
theorem dX11_readsLine_69 : decode cX11_readsLine 69 = .ok (.goto 74, 3) := by decide +kernel
theorem dX11_readsLine_72 : decode cX11_readsLine 72 = .ok (.iload_n 1, 1) := by decide +kernel
theorem dX11_readsLine_73 : decode cX11_readsLine 73 = .ok (.iconst 1, 1) := by decide +kernel
theorem dX11_readsLine_74 : decode cX11_readsLine 74 = .ok (.if_icmp .ne 69, 3) := by decide +kernel
theorem dX11_readsLine_77 : decode cX11_readsLine 77 = .ok (.aload_n 0, 1) := by decide +kernel
theorem dX11_readsLine_78 : decode cX11_readsLine 78 = .ok (.getfield 42, 3) := by decide +kernel
theorem dX11_readsLine_81 : decode cX11_readsLine 81 = .ok (.iconst 2, 1) := by decide +kernel
theorem dX11_readsLine_82 : decode cX11_readsLine 82 = .ok (.aload_n 0, 1) := by decide +kernel
theorem dX11_readsLine_83 : decode cX11_readsLine 83 = .ok (.getfield 20, 3) := by decide +kernel
theorem dX11_readsLine_86 : decode cX11_readsLine 86 = .ok (.iload_n 2, 1) := by decide +kernel
theorem dX11_readsLine_87 : decode cX11_readsLine 87 = .ok (.iconst 1, 1) := by decide +kernel
theorem dX11_readsLine_88 : decode cX11_readsLine 88 = .ok (.iadd, 1) := by decide +kernel
theorem dX11_readsLine_89 : decode cX11_readsLine 89 = .ok (.iaload, 1) := by decide +kernel
theorem dX11_readsLine_90 : decode cX11_readsLine 90 = .ok (.imul, 1) := by decide +kernel
theorem dX11_readsLine_91 : decode cX11_readsLine 91 = .ok (.aload_n 0, 1) := by decide +kernel
theorem dX11_readsLine_92 : decode cX11_readsLine 92 = .ok (.getfield 20, 3) := by decide +kernel
theorem dX11_readsLine_95 : decode cX11_readsLine 95 = .ok (.iload_n 2, 1) := by decide +kernel
theorem dX11_readsLine_96 : decode cX11_readsLine 96 = .ok (.iconst 3, 1) := by decide +kernel
theorem dX11_readsLine_97 : decode cX11_readsLine 97 = .ok (.iadd, 1) := by decide +kernel
theorem dX11_readsLine_98 : decode cX11_readsLine 98 = .ok (.iaload, 1) := by decide +kernel
theorem dX11_readsLine_99 : decode cX11_readsLine 99 = .ok (.iconst (-1), 1) := by decide +kernel
theorem dX11_readsLine_100 : decode cX11_readsLine 100 = .ok (.if_icmp .eq 7, 3) := by decide +kernel
theorem dX11_readsLine_103 : decode cX11_readsLine 103 = .ok (.iconst 1, 1) := by decide +kernel
theorem dX11_readsLine_104 : decode cX11_readsLine 104 = .ok (.goto 4, 3) := by decide +kernel
theorem dX11_readsLine_107 : decode cX11_readsLine 107 = .ok (.iconst 0, 1) := by decide +kernel
theorem dX11_readsLine_108 : decode cX11_readsLine 108 = .ok (.bastore, 1) := by decide +kernel
theorem dX11_readsLine_109 : decode cX11_readsLine 109 = .ok (.aload_n 0, 1) := by decide +kernel
theorem dX11_readsLine_110 : decode cX11_readsLine 110 = .ok (.getfield 42, 3) := by decide +kernel
theorem dX11_readsLine_113 : decode cX11_readsLine 113 = .ok (.iconst 2, 1) := by decide +kernel
theorem dX11_readsLine_114 : decode cX11_readsLine 114 = .ok (.aload_n 0, 1) := by decide +kernel
theorem dX11_readsLine_115 : decode cX11_readsLine 115 = .ok (.getfield 20, 3) := by decide +kernel
theorem dX11_readsLine_118 : decode cX11_readsLine 118 = .ok (.iload_n 2, 1) := by decide +kernel
theorem dX11_readsLine_119 : decode cX11_readsLine 119 = .ok (.iconst 1, 1) := by decide +kernel
theorem dX11_readsLine_120 : decode cX11_readsLine 120 = .ok (.iadd, 1) := by decide +kernel
theorem dX11_readsLine_121 : decode cX11_readsLine 121 = .ok (.iaload, 1) := by decide +kernel
theorem dX11_readsLine_122 : decode cX11_readsLine 122 = .ok (.imul, 1) := by decide +kernel
theorem dX11_readsLine_123 : decode cX11_readsLine 123 = .ok (.iconst 1, 1) := by decide +kernel
theorem dX11_readsLine_124 : decode cX11_readsLine 124 = .ok (.iadd, 1) := by decide +kernel
theorem dX11_readsLine_125 : decode cX11_readsLine 125 = .ok (.aload_n 0, 1) := by decide +kernel
theorem dX11_readsLine_126 : decode cX11_readsLine 126 = .ok (.getfield 20, 3) := by decide +kernel
theorem dX11_readsLine_129 : decode cX11_readsLine 129 = .ok (.iload_n 2, 1) := by decide +kernel
theorem dX11_readsLine_130 : decode cX11_readsLine 130 = .ok (.iconst 4, 1) := by decide +kernel
theorem dX11_readsLine_131 : decode cX11_readsLine 131 = .ok (.iadd, 1) := by decide +kernel
theorem dX11_readsLine_132 : decode cX11_readsLine 132 = .ok (.iaload, 1) := by decide +kernel
theorem dX11_readsLine_133 : decode cX11_readsLine 133 = .ok (.iconst (-1), 1) := by decide +kernel
theorem dX11_readsLine_134 : decode cX11_readsLine 134 = .ok (.if_icmp .eq 7, 3) := by decide +kernel
theorem dX11_readsLine_137 : decode cX11_readsLine 137 = .ok (.iconst 1, 1) := by decide +kernel
theorem dX11_readsLine_138 : decode cX11_readsLine 138 = .ok (.goto 4, 3) := by decide +kernel
theorem dX11_readsLine_141 : decode cX11_readsLine 141 = .ok (.iconst 0, 1) := by decide +kernel
theorem dX11_readsLine_142 : decode cX11_readsLine 142 = .ok (.bastore, 1) := by decide +kernel
theorem dX11_readsLine_143 : decode cX11_readsLine 143 = .ok (.aload_n 0, 1) := by decide +kernel
theorem dX11_readsLine_144 : decode cX11_readsLine 144 = .ok (.dup, 1) := by decide +kernel
theorem dX11_readsLine_145 : decode cX11_readsLine 145 = .ok (.getfield 112, 3) := by decide +kernel
theorem dX11_readsLine_148 : decode cX11_readsLine 148 = .ok (.iconst 1, 1) := by decide +kernel
theorem dX11_readsLine_149 : decode cX11_readsLine 149 = .ok (.iadd, 1) := by decide +kernel
theorem dX11_readsLine_150 : decode cX11_readsLine 150 = .ok (.putfield 112, 3) := by decide +kernel
theorem dX11_readsLine_153 : decode cX11_readsLine 153 = .ok (.iconst 1, 1) := by decide +kernel
theorem dX11_readsLine_154 : decode cX11_readsLine 154 = .ok (.ireturn, 1) := by decide +kernel
theorem dX11_fault_0 : decode cX11_fault 0 = .ok (.aload_n 0, 1) := by decide +kernel
theorem dX11_fault_1 : decode cX11_fault 1 = .ok (.iconst 0, 1) := by decide +kernel
theorem dX11_fault_2 : decode cX11_fault 2 = .ok (.putfield 89, 3) := by decide +kernel
theorem dX11_fault_5 : decode cX11_fault 5 = .ok (.aload_n 0, 1) := by decide +kernel
theorem dX11_fault_6 : decode cX11_fault 6 = .ok (.iconst 0, 1) := by decide +kernel
theorem dX11_fault_7 : decode cX11_fault 7 = .ok (.putfield 112, 3) := by decide +kernel
theorem dX11_fault_10 : decode cX11_fault 10 = .ok (.aload_n 0, 1) := by decide +kernel
theorem dX11_fault_11 : decode cX11_fault 11 = .ok (.aload_n 0, 1) := by decide +kernel
theorem dX11_fault_12 : decode cX11_fault 12 = .ok (.getfield 23, 3) := by decide +kernel
theorem dX11_fault_15 : decode cX11_fault 15 = .ok (.putfield 126, 3) := by decide +kernel
theorem dX11_fault_18 : decode cX11_fault 18 = .ok (.aload_n 0, 1) := by decide +kernel
theorem dX11_fault_19 : decode cX11_fault 19 = .ok (.aload_n 0, 1) := by decide +kernel
theorem dX11_fault_20 : decode cX11_fault 20 = .ok (.getfield 27, 3) := by decide +kernel
theorem dX11_fault_23 : decode cX11_fault 23 = .ok (.putfield 129, 3) := by decide +kernel
theorem dX11_fault_26 : decode cX11_fault 26 = .ok (.iconst 0, 1) := by decide +kernel
theorem dX11_fault_27 : decode cX11_fault 27 = .ok (.istore_n 1, 1) := by decide +kernel
theorem dX11_fault_28 : decode cX11_fault 28 = .ok (.iload_n 1, 1) := by decide +kernel
theorem dX11_fault_29 : decode cX11_fault 29 = .ok (.iconst 5, 1) := by decide +kernel
theorem dX11_fault_30 : decode cX11_fault 30 = .ok (.if_icmp .ge 65, 3) := by decide +kernel
theorem dX11_fault_33 : decode cX11_fault 33 = .ok (.aload_n 0, 1) := by decide +kernel
theorem dX11_fault_34 : decode cX11_fault 34 = .ok (.getfield 42, 3) := by decide +kernel
theorem dX11_fault_37 : decode cX11_fault 37 = .ok (.iconst 2, 1) := by decide +kernel
theorem dX11_fault_38 : decode cX11_fault 38 = .ok (.iload_n 1, 1) := by decide +kernel
theorem dX11_fault_39 : decode cX11_fault 39 = .ok (.imul, 1) := by decide +kernel
theorem dX11_fault_40 : decode cX11_fault 40 = .ok (.aload_n 0, 1) := by decide +kernel
theorem dX11_fault_41 : decode cX11_fault 41 = .ok (.getfield 30, 3) := by decide +kernel
theorem dX11_fault_44 : decode cX11_fault 44 = .ok (.iconst 4, 1) := by decide +kernel
theorem dX11_fault_45 : decode cX11_fault 45 = .ok (.iload_n 1, 1) := by decide +kernel
theorem dX11_fault_46 : decode cX11_fault 46 = .ok (.imul, 1) := by decide +kernel
theorem dX11_fault_47 : decode cX11_fault 47 = .ok (.iconst 1, 1) := by decide +kernel
theorem dX11_fault_48 : decode cX11_fault 48 = .ok (.iadd, 1) := by decide +kernel
theorem dX11_fault_49 : decode cX11_fault 49 = .ok (.iaload, 1) := by decide +kernel
theorem dX11_fault_50 : decode cX11_fault 50 = .ok (.iconst (-1), 1) := by decide +kernel
theorem dX11_fault_51 : decode cX11_fault 51 = .ok (.if_icmp .eq 7, 3) := by decide +kernel
theorem dX11_fault_54 : decode cX11_fault 54 = .ok (.iconst 1, 1) := by decide +kernel
theorem dX11_fault_55 : decode cX11_fault 55 = .ok (.goto 4, 3) := by decide +kernel
theorem dX11_fault_58 : decode cX11_fault 58 = .ok (.iconst 0, 1) := by decide +kernel
theorem dX11_fault_59 : decode cX11_fault 59 = .ok (.bastore, 1) := by decide +kernel
theorem dX11_fault_60 : decode cX11_fault 60 = .ok (.aload_n 0, 1) := by decide +kernel
theorem dX11_fault_61 : decode cX11_fault 61 = .ok (.getfield 42, 3) := by decide +kernel
theorem dX11_fault_64 : decode cX11_fault 64 = .ok (.iconst 2, 1) := by decide +kernel
theorem dX11_fault_65 : decode cX11_fault 65 = .ok (.iload_n 1, 1) := by decide +kernel
theorem dX11_fault_66 : decode cX11_fault 66 = .ok (.imul, 1) := by decide +kernel
theorem dX11_fault_67 : decode cX11_fault 67 = .ok (.iconst 1, 1) := by decide +kernel
theorem dX11_fault_68 : decode cX11_fault 68 = .ok (.iadd, 1) := by decide +kernel
theorem dX11_fault_69 : decode cX11_fault 69 = .ok (.aload_n 0, 1) := by decide +kernel
theorem dX11_fault_70 : decode cX11_fault 70 = .ok (.getfield 30, 3) := by decide +kernel
theorem dX11_fault_73 : decode cX11_fault 73 = .ok (.iconst 4, 1) := by decide +kernel
theorem dX11_fault_74 : decode cX11_fault 74 = .ok (.iload_n 1, 1) := by decide +kernel
theorem dX11_fault_75 : decode cX11_fault 75 = .ok (.imul, 1) := by decide +kernel
theorem dX11_fault_76 : decode cX11_fault 76 = .ok (.iconst 2, 1) := by decide +kernel
theorem dX11_fault_77 : decode cX11_fault 77 = .ok (.iadd, 1) := by decide +kernel
theorem dX11_fault_78 : decode cX11_fault 78 = .ok (.iaload, 1) := by decide +kernel
theorem dX11_fault_79 : decode cX11_fault 79 = .ok (.iconst (-1), 1) := by decide +kernel
theorem dX11_fault_80 : decode cX11_fault 80 = .ok (.if_icmp .eq 7, 3) := by decide +kernel
theorem dX11_fault_83 : decode cX11_fault 83 = .ok (.iconst 1, 1) := by decide +kernel
theorem dX11_fault_84 : decode cX11_fault 84 = .ok (.goto 4, 3) := by decide +kernel
theorem dX11_fault_87 : decode cX11_fault 87 = .ok (.iconst 0, 1) := by decide +kernel
theorem dX11_fault_88 : decode cX11_fault 88 = .ok (.bastore, 1) := by decide +kernel
theorem dX11_fault_89 : decode cX11_fault 89 = .ok (.iinc 1 1, 3) := by decide +kernel
theorem dX11_fault_92 : decode cX11_fault 92 = .ok (.goto (-64), 3) := by decide +kernel
theorem dX11_fault_95 : decode cX11_fault 95 = .ok (.aload_n 0, 1) := by decide +kernel
theorem dX11_fault_96 : decode cX11_fault 96 = .ok (.invokevirtual 115, 3) := by decide +kernel
theorem dX11_fault_99 : decode cX11_fault 99 = .ok (.aload_n 0, 1) := by decide +kernel
theorem dX11_fault_100 : decode cX11_fault 100 = .ok (.invokevirtual 143, 3) := by decide +kernel
theorem dX11_fault_103 : decode cX11_fault 103 = .ok (.ifCond .ne 8, 3) := by decide +kernel
theorem dX11_fault_106 : decode cX11_fault 106 = .ok (.aload_n 0, 1) := by decide +kernel
theorem dX11_fault_107 : decode cX11_fault 107 = .ok (.getfield 92, 3) := by decide +kernel
theorem dX11_fault_110 : decode cX11_fault 110 = .ok (.ireturn, 1) := by decide +kernel
theorem dX11_fault_111 : decode cX11_fault 111 = .ok (.aload_n 0, 1) := by decide +kernel
theorem dX11_fault_112 : decode cX11_fault 112 = .ok (.getfield 92, 3) := by decide +kernel
theorem dX11_fault_115 : decode cX11_fault 115 = .ok (.aload_n 0, 1) := by decide +kernel
theorem dX11_fault_116 : decode cX11_fault 116 = .ok (.getfield 84, 3) := by decide +kernel
theorem dX11_fault_119 : decode cX11_fault 119 = .ok (.if_icmp .ge 70, 3) := by decide +kernel
theorem dX11_fault_122 : decode cX11_fault 122 = .ok (.aload_n 0, 1) := by decide +kernel
theorem dX11_fault_123 : decode cX11_fault 123 = .ok (.getfield 99, 3) := by decide +kernel
theorem dX11_fault_126 : decode cX11_fault 126 = .ok (.aload_n 0, 1) := by decide +kernel
theorem dX11_fault_127 : decode cX11_fault 127 = .ok (.getfield 92, 3) := by decide +kernel
theorem dX11_fault_130 : decode cX11_fault 130 = .ok (.isub, 1) := by decide +kernel
theorem dX11_fault_131 : decode cX11_fault 131 = .ok (.iconst 1, 1) := by decide +kernel
theorem dX11_fault_132 : decode cX11_fault 132 = .ok (.if_icmp .ne 30, 3) := by decide +kernel
theorem dX11_fault_135 : decode cX11_fault 135 = .ok (.aload_n 0, 1) := by decide +kernel
theorem dX11_fault_136 : decode cX11_fault 136 = .ok (.getfield 17, 3) := by decide +kernel
theorem dX11_fault_139 : decode cX11_fault 139 = .ok (.aload_n 0, 1) := by decide +kernel
theorem dX11_fault_140 : decode cX11_fault 140 = .ok (.getfield 92, 3) := by decide +kernel
theorem dX11_fault_143 : decode cX11_fault 143 = .ok (.iaload, 1) := by decide +kernel
theorem dX11_fault_144 : decode cX11_fault 144 = .ok (.bipush 59, 2) := by decide +kernel
theorem dX11_fault_146 : decode cX11_fault 146 = .ok (.if_icmp .ne 16, 3) := by decide +kernel
theorem dX11_fault_149 : decode cX11_fault 149 = .ok (.aload_n 0, 1) := by decide +kernel
theorem dX11_fault_150 : decode cX11_fault 150 = .ok (.getfield 112, 3) := by decide +kernel
theorem dX11_fault_153 : decode cX11_fault 153 = .ok (.bipush 10, 2) := by decide +kernel
theorem dX11_fault_155 : decode cX11_fault 155 = .ok (.if_icmp .ge 7, 3) := by decide +kernel
theorem dX11_fault_158 : decode cX11_fault 158 = .ok (.iconst 1, 1) := by decide +kernel
theorem dX11_fault_159 : decode cX11_fault 159 = .ok (.goto 4, 3) := by decide +kernel
theorem dX11_fault_162 : decode cX11_fault 162 = .ok (.iconst 0, 1) := by decide +kernel
theorem dX11_fault_163 : decode cX11_fault 163 = .ok (.istore_n 1, 1) := by decide +kernel
theorem dX11_fault_164 : decode cX11_fault 164 = .ok (.iload_n 1, 1) := by decide +kernel
theorem dX11_fault_165 : decode cX11_fault 165 = .ok (.ifCond .eq 12, 3) := by decide +kernel
theorem dX11_fault_168 : decode cX11_fault 168 = .ok (.aload_n 0, 1) := by decide +kernel
theorem dX11_fault_169 : decode cX11_fault 169 = .ok (.invokevirtual 115, 3) := by decide +kernel
theorem dX11_fault_172 : decode cX11_fault 172 = .ok (.aload_n 0, 1) := by decide +kernel
theorem dX11_fault_173 : decode cX11_fault 173 = .ok (.invokevirtual 143, 3) := by decide +kernel
theorem dX11_fault_176 : decode cX11_fault 176 = .ok (.istore_n 1, 1) := by decide +kernel
theorem dX11_fault_177 : decode cX11_fault 177 = .ok (.iload_n 1, 1) := by decide +kernel
theorem dX11_fault_178 : decode cX11_fault 178 = .ok (.ifCond .ne 8, 3) := by decide +kernel
theorem dX11_fault_181 : decode cX11_fault 181 = .ok (.aload_n 0, 1) := by decide +kernel
theorem dX11_fault_182 : decode cX11_fault 182 = .ok (.getfield 92, 3) := by decide +kernel
theorem dX11_fault_185 : decode cX11_fault 185 = .ok (.ireturn, 1) := by decide +kernel
theorem dX11_fault_186 : decode cX11_fault 186 = .ok (.goto (-75), 3) := by decide +kernel
theorem dX11_fault_189 : decode cX11_fault 189 = .ok (.iconst (-1), 1) := by decide +kernel
theorem dX11_fault_190 : decode cX11_fault 190 = .ok (.ireturn, 1) := by decide +kernel
theorem dX11_meantAt_0 : decode cX11_meantAt 0 = .ok (.bipush 48, 2) := by decide +kernel
theorem dX11_meantAt_2 : decode cX11_meantAt 2 = .ok (.iload_n 0, 1) := by decide +kernel
theorem dX11_meantAt_3 : decode cX11_meantAt 3 = .ok (.imul, 1) := by decide +kernel
theorem dX11_meantAt_4 : decode cX11_meantAt 4 = .ok (.bipush 24, 2) := by decide +kernel
theorem dX11_meantAt_6 : decode cX11_meantAt 6 = .ok (.iload_n 1, 1) := by decide +kernel
theorem dX11_meantAt_7 : decode cX11_meantAt 7 = .ok (.imul, 1) := by decide +kernel
theorem dX11_meantAt_8 : decode cX11_meantAt 8 = .ok (.iadd, 1) := by decide +kernel
theorem dX11_meantAt_9 : decode cX11_meantAt 9 = .ok (.iconst 4, 1) := by decide +kernel
theorem dX11_meantAt_10 : decode cX11_meantAt 10 = .ok (.iload_n 2, 1) := by decide +kernel
theorem dX11_meantAt_11 : decode cX11_meantAt 11 = .ok (.imul, 1) := by decide +kernel
theorem dX11_meantAt_12 : decode cX11_meantAt 12 = .ok (.iadd, 1) := by decide +kernel
theorem dX11_meantAt_13 : decode cX11_meantAt 13 = .ok (.iload_n 3, 1) := by decide +kernel
theorem dX11_meantAt_14 : decode cX11_meantAt 14 = .ok (.iadd, 1) := by decide +kernel
theorem dX11_meantAt_15 : decode cX11_meantAt 15 = .ok (.ireturn, 1) := by decide +kernel
theorem dX11_tell_0 : decode cX11_tell 0 = .ok (.aload_n 0, 1) := by decide +kernel
theorem dX11_tell_1 : decode cX11_tell 1 = .ok (.getfield 20, 3) := by decide +kernel
theorem dX11_tell_4 : decode cX11_tell 4 = .ok (.iload_n 1, 1) := by decide +kernel
theorem dX11_tell_5 : decode cX11_tell 5 = .ok (.iconst 1, 1) := by decide +kernel
theorem dX11_tell_6 : decode cX11_tell 6 = .ok (.iadd, 1) := by decide +kernel
theorem dX11_tell_7 : decode cX11_tell 7 = .ok (.iaload, 1) := by decide +kernel
theorem dX11_tell_8 : decode cX11_tell 8 = .ok (.istore_n 2, 1) := by decide +kernel
theorem dX11_tell_9 : decode cX11_tell 9 = .ok (.aload_n 0, 1) := by decide +kernel
theorem dX11_tell_10 : decode cX11_tell 10 = .ok (.getfield 20, 3) := by decide +kernel
theorem dX11_tell_13 : decode cX11_tell 13 = .ok (.iload_n 1, 1) := by decide +kernel
theorem dX11_tell_14 : decode cX11_tell 14 = .ok (.iconst 2, 1) := by decide +kernel
theorem dX11_tell_15 : decode cX11_tell 15 = .ok (.iadd, 1) := by decide +kernel
theorem dX11_tell_16 : decode cX11_tell 16 = .ok (.iaload, 1) := by decide +kernel
theorem dX11_tell_17 : decode cX11_tell 17 = .ok (.istore_n 3, 1) := by decide +kernel
theorem dX11_tell_18 : decode cX11_tell 18 = .ok (.aload_n 0, 1) := by decide +kernel
theorem dX11_tell_19 : decode cX11_tell 19 = .ok (.getfield 20, 3) := by decide +kernel
theorem dX11_tell_22 : decode cX11_tell 22 = .ok (.iload_n 1, 1) := by decide +kernel
theorem dX11_tell_23 : decode cX11_tell 23 = .ok (.iaload, 1) := by decide +kernel
theorem dX11_tell_24 : decode cX11_tell 24 = .ok (.tableswitch 182 0 4 #[36, 95, 133, 141, 176], 36) := by decide +kernel
theorem dX11_tell_60 : decode cX11_tell 60 = .ok (.aload_n 0, 1) := by decide +kernel
theorem dX11_tell_61 : decode cX11_tell 61 = .ok (.iload_n 2, 1) := by decide +kernel
theorem dX11_tell_62 : decode cX11_tell 62 = .ok (.putfield 23, 3) := by decide +kernel
theorem dX11_tell_65 : decode cX11_tell 65 = .ok (.aload_n 0, 1) := by decide +kernel
theorem dX11_tell_66 : decode cX11_tell 66 = .ok (.iload_n 3, 1) := by decide +kernel
theorem dX11_tell_67 : decode cX11_tell 67 = .ok (.putfield 27, 3) := by decide +kernel
theorem dX11_tell_70 : decode cX11_tell 70 = .ok (.iconst 0, 1) := by decide +kernel
theorem dX11_tell_71 : decode cX11_tell 71 = .ok (.istore 4, 2) := by decide +kernel
theorem dX11_tell_73 : decode cX11_tell 73 = .ok (.iload 4, 2) := by decide +kernel
theorem dX11_tell_75 : decode cX11_tell 75 = .ok (.bipush 6, 2) := by decide +kernel
theorem dX11_tell_77 : decode cX11_tell 77 = .ok (.if_icmp .ge 17, 3) := by decide +kernel
theorem dX11_tell_80 : decode cX11_tell 80 = .ok (.aload_n 0, 1) := by decide +kernel
theorem dX11_tell_81 : decode cX11_tell 81 = .ok (.getfield 33, 3) := by decide +kernel
theorem dX11_tell_84 : decode cX11_tell 84 = .ok (.iload 4, 2) := by decide +kernel
theorem dX11_tell_86 : decode cX11_tell 86 = .ok (.iconst 0, 1) := by decide +kernel
theorem dX11_tell_87 : decode cX11_tell 87 = .ok (.iastore, 1) := by decide +kernel
theorem dX11_tell_88 : decode cX11_tell 88 = .ok (.iinc 4 1, 3) := by decide +kernel
theorem dX11_tell_91 : decode cX11_tell 91 = .ok (.goto (-18), 3) := by decide +kernel
theorem dX11_tell_94 : decode cX11_tell 94 = .ok (.iconst 0, 1) := by decide +kernel
theorem dX11_tell_95 : decode cX11_tell 95 = .ok (.istore 4, 2) := by decide +kernel
theorem dX11_tell_97 : decode cX11_tell 97 = .ok (.iload 4, 2) := by decide +kernel
theorem dX11_tell_99 : decode cX11_tell 99 = .ok (.bipush 96, 2) := by decide +kernel
theorem dX11_tell_101 : decode cX11_tell 101 = .ok (.if_icmp .ge 17, 3) := by decide +kernel
theorem dX11_tell_104 : decode cX11_tell 104 = .ok (.aload_n 0, 1) := by decide +kernel
theorem dX11_tell_105 : decode cX11_tell 105 = .ok (.getfield 36, 3) := by decide +kernel
theorem dX11_tell_108 : decode cX11_tell 108 = .ok (.iload 4, 2) := by decide +kernel
theorem dX11_tell_110 : decode cX11_tell 110 = .ok (.iconst 5, 1) := by decide +kernel
theorem dX11_tell_111 : decode cX11_tell 111 = .ok (.iastore, 1) := by decide +kernel
theorem dX11_tell_112 : decode cX11_tell 112 = .ok (.iinc 4 1, 3) := by decide +kernel
theorem dX11_tell_115 : decode cX11_tell 115 = .ok (.goto (-18), 3) := by decide +kernel
theorem dX11_tell_118 : decode cX11_tell 118 = .ok (.return_, 1) := by decide +kernel
theorem dX11_tell_119 : decode cX11_tell 119 = .ok (.iconst 0, 1) := by decide +kernel
theorem dX11_tell_120 : decode cX11_tell 120 = .ok (.istore 4, 2) := by decide +kernel
theorem dX11_tell_122 : decode cX11_tell 122 = .ok (.iload 4, 2) := by decide +kernel
theorem dX11_tell_124 : decode cX11_tell 124 = .ok (.iconst 4, 1) := by decide +kernel
theorem dX11_tell_125 : decode cX11_tell 125 = .ok (.if_icmp .ge 31, 3) := by decide +kernel
theorem dX11_tell_128 : decode cX11_tell 128 = .ok (.aload_n 0, 1) := by decide +kernel
theorem dX11_tell_129 : decode cX11_tell 129 = .ok (.getfield 30, 3) := by decide +kernel
theorem dX11_tell_132 : decode cX11_tell 132 = .ok (.iconst 4, 1) := by decide +kernel
theorem dX11_tell_133 : decode cX11_tell 133 = .ok (.iload_n 2, 1) := by decide +kernel
theorem dX11_tell_134 : decode cX11_tell 134 = .ok (.imul, 1) := by decide +kernel
theorem dX11_tell_135 : decode cX11_tell 135 = .ok (.iload 4, 2) := by decide +kernel
theorem dX11_tell_137 : decode cX11_tell 137 = .ok (.iadd, 1) := by decide +kernel
theorem dX11_tell_138 : decode cX11_tell 138 = .ok (.aload_n 0, 1) := by decide +kernel
theorem dX11_tell_139 : decode cX11_tell 139 = .ok (.getfield 20, 3) := by decide +kernel
theorem dX11_tell_142 : decode cX11_tell 142 = .ok (.iload_n 1, 1) := by decide +kernel
theorem dX11_tell_143 : decode cX11_tell 143 = .ok (.iconst 2, 1) := by decide +kernel
theorem dX11_tell_144 : decode cX11_tell 144 = .ok (.iadd, 1) := by decide +kernel
theorem dX11_tell_145 : decode cX11_tell 145 = .ok (.iload 4, 2) := by decide +kernel
theorem dX11_tell_147 : decode cX11_tell 147 = .ok (.iadd, 1) := by decide +kernel
theorem dX11_tell_148 : decode cX11_tell 148 = .ok (.iaload, 1) := by decide +kernel
theorem dX11_tell_149 : decode cX11_tell 149 = .ok (.iastore, 1) := by decide +kernel
theorem dX11_tell_150 : decode cX11_tell 150 = .ok (.iinc 4 1, 3) := by decide +kernel
theorem dX11_tell_153 : decode cX11_tell 153 = .ok (.goto (-31), 3) := by decide +kernel
theorem dX11_tell_156 : decode cX11_tell 156 = .ok (.return_, 1) := by decide +kernel
theorem dX11_tell_157 : decode cX11_tell 157 = .ok (.aload_n 0, 1) := by decide +kernel
theorem dX11_tell_158 : decode cX11_tell 158 = .ok (.getfield 33, 3) := by decide +kernel
theorem dX11_tell_161 : decode cX11_tell 161 = .ok (.iload_n 2, 1) := by decide +kernel
theorem dX11_tell_162 : decode cX11_tell 162 = .ok (.iload_n 3, 1) := by decide +kernel
theorem dX11_tell_163 : decode cX11_tell 163 = .ok (.iastore, 1) := by decide +kernel
theorem dX11_tell_164 : decode cX11_tell 164 = .ok (.return_, 1) := by decide +kernel
theorem dX11_tell_165 : decode cX11_tell 165 = .ok (.aload_n 0, 1) := by decide +kernel
theorem dX11_tell_166 : decode cX11_tell 166 = .ok (.getfield 36, 3) := by decide +kernel
theorem dX11_tell_169 : decode cX11_tell 169 = .ok (.iload_n 2, 1) := by decide +kernel
theorem dX11_tell_170 : decode cX11_tell 170 = .ok (.iload_n 3, 1) := by decide +kernel
theorem dX11_tell_171 : decode cX11_tell 171 = .ok (.aload_n 0, 1) := by decide +kernel
theorem dX11_tell_172 : decode cX11_tell 172 = .ok (.getfield 20, 3) := by decide +kernel
theorem dX11_tell_175 : decode cX11_tell 175 = .ok (.iload_n 1, 1) := by decide +kernel
theorem dX11_tell_176 : decode cX11_tell 176 = .ok (.iconst 3, 1) := by decide +kernel
theorem dX11_tell_177 : decode cX11_tell 177 = .ok (.iadd, 1) := by decide +kernel
theorem dX11_tell_178 : decode cX11_tell 178 = .ok (.iaload, 1) := by decide +kernel
theorem dX11_tell_179 : decode cX11_tell 179 = .ok (.aload_n 0, 1) := by decide +kernel
theorem dX11_tell_180 : decode cX11_tell 180 = .ok (.getfield 20, 3) := by decide +kernel
theorem dX11_tell_183 : decode cX11_tell 183 = .ok (.iload_n 1, 1) := by decide +kernel
theorem dX11_tell_184 : decode cX11_tell 184 = .ok (.iconst 4, 1) := by decide +kernel
theorem dX11_tell_185 : decode cX11_tell 185 = .ok (.iadd, 1) := by decide +kernel
theorem dX11_tell_186 : decode cX11_tell 186 = .ok (.iaload, 1) := by decide +kernel
theorem dX11_tell_187 : decode cX11_tell 187 = .ok (.invokestatic 146, 3) := by decide +kernel
theorem dX11_tell_190 : decode cX11_tell 190 = .ok (.aload_n 0, 1) := by decide +kernel
theorem dX11_tell_191 : decode cX11_tell 191 = .ok (.getfield 20, 3) := by decide +kernel
theorem dX11_tell_194 : decode cX11_tell 194 = .ok (.iload_n 1, 1) := by decide +kernel
theorem dX11_tell_195 : decode cX11_tell 195 = .ok (.iconst 5, 1) := by decide +kernel
theorem dX11_tell_196 : decode cX11_tell 196 = .ok (.iadd, 1) := by decide +kernel
theorem dX11_tell_197 : decode cX11_tell 197 = .ok (.iaload, 1) := by decide +kernel
theorem dX11_tell_198 : decode cX11_tell 198 = .ok (.iastore, 1) := by decide +kernel
theorem dX11_tell_199 : decode cX11_tell 199 = .ok (.return_, 1) := by decide +kernel
theorem dX11_tell_200 : decode cX11_tell 200 = .ok (.aload_n 0, 1) := by decide +kernel
theorem dX11_tell_201 : decode cX11_tell 201 = .ok (.iload_n 2, 1) := by decide +kernel
theorem dX11_tell_202 : decode cX11_tell 202 = .ok (.putfield 150, 3) := by decide +kernel
theorem dX11_tell_205 : decode cX11_tell 205 = .ok (.return_, 1) := by decide +kernel
theorem dX11_tell_206 : decode cX11_tell 206 = .ok (.aload_n 0, 1) := by decide +kernel
theorem dX11_tell_207 : decode cX11_tell 207 = .ok (.iload_n 2, 1) := by decide +kernel
theorem dX11_tell_208 : decode cX11_tell 208 = .ok (.putfield 39, 3) := by decide +kernel
theorem dX11_tell_211 : decode cX11_tell 211 = .ok (.return_, 1) := by decide +kernel
theorem dX11_treaty_0 : decode cX11_treaty 0 = .ok (.aload_n 0, 1) := by decide +kernel
theorem dX11_treaty_1 : decode cX11_treaty 1 = .ok (.invokevirtual 153, 3) := by decide +kernel
theorem dX11_treaty_4 : decode cX11_treaty 4 = .ok (.iconst (-1), 1) := by decide +kernel
theorem dX11_treaty_5 : decode cX11_treaty 5 = .ok (.if_icmp .eq 6, 3) := by decide +kernel
theorem dX11_treaty_8 : decode cX11_treaty 8 = .ok (.bipush (-4), 2) := by decide +kernel
theorem dX11_treaty_10 : decode cX11_treaty 10 = .ok (.ireturn, 1) := by decide +kernel
theorem dX11_treaty_11 : decode cX11_treaty 11 = .ok (.iconst 0, 1) := by decide +kernel
theorem dX11_treaty_12 : decode cX11_treaty 12 = .ok (.istore_n 1, 1) := by decide +kernel
theorem dX11_treaty_13 : decode cX11_treaty 13 = .ok (.iload_n 1, 1) := by decide +kernel
theorem dX11_treaty_14 : decode cX11_treaty 14 = .ok (.aload_n 0, 1) := by decide +kernel
theorem dX11_treaty_15 : decode cX11_treaty 15 = .ok (.getfield 112, 3) := by decide +kernel
theorem dX11_treaty_18 : decode cX11_treaty 18 = .ok (.if_icmp .ge 17, 3) := by decide +kernel
theorem dX11_treaty_21 : decode cX11_treaty 21 = .ok (.aload_n 0, 1) := by decide +kernel
theorem dX11_treaty_22 : decode cX11_treaty 22 = .ok (.bipush 6, 2) := by decide +kernel
theorem dX11_treaty_24 : decode cX11_treaty 24 = .ok (.iload_n 1, 1) := by decide +kernel
theorem dX11_treaty_25 : decode cX11_treaty 25 = .ok (.imul, 1) := by decide +kernel
theorem dX11_treaty_26 : decode cX11_treaty 26 = .ok (.invokevirtual 156, 3) := by decide +kernel
theorem dX11_treaty_29 : decode cX11_treaty 29 = .ok (.iinc 1 1, 3) := by decide +kernel
theorem dX11_treaty_32 : decode cX11_treaty 32 = .ok (.goto (-19), 3) := by decide +kernel
theorem dX11_treaty_35 : decode cX11_treaty 35 = .ok (.aload_n 0, 1) := by decide +kernel
theorem dX11_treaty_36 : decode cX11_treaty 36 = .ok (.invokevirtual 75, 3) := by decide +kernel
theorem dX11_treaty_39 : decode cX11_treaty 39 = .ok (.aload_n 0, 1) := by decide +kernel
theorem dX11_treaty_40 : decode cX11_treaty 40 = .ok (.getfield 13, 3) := by decide +kernel
theorem dX11_treaty_43 : decode cX11_treaty 43 = .ok (.iconst 0, 1) := by decide +kernel
theorem dX11_treaty_44 : decode cX11_treaty 44 = .ok (.iconst 0, 1) := by decide +kernel
theorem dX11_treaty_45 : decode cX11_treaty 45 = .ok (.bastore, 1) := by decide +kernel
theorem dX11_treaty_46 : decode cX11_treaty 46 = .ok (.aload_n 0, 1) := by decide +kernel
theorem dX11_treaty_47 : decode cX11_treaty 47 = .ok (.getfield 13, 3) := by decide +kernel
theorem dX11_treaty_50 : decode cX11_treaty 50 = .ok (.iconst 1, 1) := by decide +kernel
theorem dX11_treaty_51 : decode cX11_treaty 51 = .ok (.iconst 0, 1) := by decide +kernel
theorem dX11_treaty_52 : decode cX11_treaty 52 = .ok (.bastore, 1) := by decide +kernel
theorem dX11_treaty_53 : decode cX11_treaty 53 = .ok (.aload_n 0, 1) := by decide +kernel
theorem dX11_treaty_54 : decode cX11_treaty 54 = .ok (.iconst 0, 1) := by decide +kernel
theorem dX11_treaty_55 : decode cX11_treaty 55 = .ok (.putfield 84, 3) := by decide +kernel
theorem dX11_treaty_58 : decode cX11_treaty 58 = .ok (.aload_n 0, 1) := by decide +kernel
theorem dX11_treaty_59 : decode cX11_treaty 59 = .ok (.getfield 112, 3) := by decide +kernel
theorem dX11_treaty_62 : decode cX11_treaty 62 = .ok (.ireturn, 1) := by decide +kernel
theorem dX11_work_0 : decode cX11_work 0 = .ok (.iload_n 1, 1) := by decide +kernel
theorem dX11_work_1 : decode cX11_work 1 = .ok (.i2l, 1) := by decide +kernel
theorem dX11_work_2 : decode cX11_work 2 = .ok (.lconst 0, 1) := by decide +kernel
theorem dX11_work_3 : decode cX11_work 3 = .ok (.ldc2_w 160, 3) := by decide +kernel
theorem dX11_work_6 : decode cX11_work 6 = .ok (.invokestatic 80, 3) := by decide +kernel
theorem dX11_work_9 : decode cX11_work 9 = .ok (.ifCond .ne 6, 3) := by decide +kernel
theorem dX11_work_12 : decode cX11_work 12 = .ok (.bipush (-2), 2) := by decide +kernel
theorem dX11_work_14 : decode cX11_work 14 = .ok (.ireturn, 1) := by decide +kernel
theorem dX11_work_15 : decode cX11_work 15 = .ok (.iload_n 2, 1) := by decide +kernel
theorem dX11_work_16 : decode cX11_work 16 = .ok (.i2l, 1) := by decide +kernel
theorem dX11_work_17 : decode cX11_work 17 = .ok (.lconst 0, 1) := by decide +kernel
theorem dX11_work_18 : decode cX11_work 18 = .ok (.ldc2_w 162, 3) := by decide +kernel
theorem dX11_work_21 : decode cX11_work 21 = .ok (.invokestatic 80, 3) := by decide +kernel
theorem dX11_work_24 : decode cX11_work 24 = .ok (.ifCond .eq 16, 3) := by decide +kernel
theorem dX11_work_27 : decode cX11_work 27 = .ok (.aload_n 0, 1) := by decide +kernel
theorem dX11_work_28 : decode cX11_work 28 = .ok (.getfield 30, 3) := by decide +kernel
theorem dX11_work_31 : decode cX11_work 31 = .ok (.iconst 4, 1) := by decide +kernel
theorem dX11_work_32 : decode cX11_work 32 = .ok (.iload_n 1, 1) := by decide +kernel
theorem dX11_work_33 : decode cX11_work 33 = .ok (.imul, 1) := by decide +kernel
theorem dX11_work_34 : decode cX11_work 34 = .ok (.iload_n 2, 1) := by decide +kernel
theorem dX11_work_35 : decode cX11_work 35 = .ok (.iadd, 1) := by decide +kernel
theorem dX11_work_36 : decode cX11_work 36 = .ok (.iaload, 1) := by decide +kernel
theorem dX11_work_37 : decode cX11_work 37 = .ok (.goto 5, 3) := by decide +kernel
theorem dX11_work_40 : decode cX11_work 40 = .ok (.bipush (-3), 2) := by decide +kernel
theorem dX11_work_42 : decode cX11_work 42 = .ok (.ireturn, 1) := by decide +kernel
theorem dX11_isValley_0 : decode cX11_isValley 0 = .ok (.iload_n 0, 1) := by decide +kernel
theorem dX11_isValley_1 : decode cX11_isValley 1 = .ok (.i2l, 1) := by decide +kernel
theorem dX11_isValley_2 : decode cX11_isValley 2 = .ok (.lconst 0, 1) := by decide +kernel
theorem dX11_isValley_3 : decode cX11_isValley 3 = .ok (.lconst 1, 1) := by decide +kernel
theorem dX11_isValley_4 : decode cX11_isValley 4 = .ok (.invokestatic 80, 3) := by decide +kernel
theorem dX11_isValley_7 : decode cX11_isValley 7 = .ok (.ireturn, 1) := by decide +kernel
theorem dX11_isPair_0 : decode cX11_isPair 0 = .ok (.iload_n 1, 1) := by decide +kernel
theorem dX11_isPair_1 : decode cX11_isPair 1 = .ok (.i2l, 1) := by decide +kernel
theorem dX11_isPair_2 : decode cX11_isPair 2 = .ok (.lconst 0, 1) := by decide +kernel
theorem dX11_isPair_3 : decode cX11_isPair 3 = .ok (.aload_n 0, 1) := by decide +kernel
theorem dX11_isPair_4 : decode cX11_isPair 4 = .ok (.getfield 23, 3) := by decide +kernel
theorem dX11_isPair_7 : decode cX11_isPair 7 = .ok (.iconst 1, 1) := by decide +kernel
theorem dX11_isPair_8 : decode cX11_isPair 8 = .ok (.isub, 1) := by decide +kernel
theorem dX11_isPair_9 : decode cX11_isPair 9 = .ok (.i2l, 1) := by decide +kernel
theorem dX11_isPair_10 : decode cX11_isPair 10 = .ok (.invokestatic 80, 3) := by decide +kernel
theorem dX11_isPair_13 : decode cX11_isPair 13 = .ok (.ireturn, 1) := by decide +kernel
theorem dX11_isHour_0 : decode cX11_isHour 0 = .ok (.iload_n 1, 1) := by decide +kernel
theorem dX11_isHour_1 : decode cX11_isHour 1 = .ok (.i2l, 1) := by decide +kernel
theorem dX11_isHour_2 : decode cX11_isHour 2 = .ok (.lconst 0, 1) := by decide +kernel
theorem dX11_isHour_3 : decode cX11_isHour 3 = .ok (.aload_n 0, 1) := by decide +kernel
theorem dX11_isHour_4 : decode cX11_isHour 4 = .ok (.getfield 27, 3) := by decide +kernel
theorem dX11_isHour_7 : decode cX11_isHour 7 = .ok (.iconst 1, 1) := by decide +kernel
theorem dX11_isHour_8 : decode cX11_isHour 8 = .ok (.isub, 1) := by decide +kernel
theorem dX11_isHour_9 : decode cX11_isHour 9 = .ok (.i2l, 1) := by decide +kernel
theorem dX11_isHour_10 : decode cX11_isHour 10 = .ok (.invokestatic 80, 3) := by decide +kernel
theorem dX11_isHour_13 : decode cX11_isHour 13 = .ok (.ireturn, 1) := by decide +kernel
theorem dX11_meant_0 : decode cX11_meant 0 = .ok (.iload_n 2, 1) := by decide +kernel
theorem dX11_meant_1 : decode cX11_meant 1 = .ok (.invokestatic 164, 3) := by decide +kernel
theorem dX11_meant_4 : decode cX11_meant 4 = .ok (.ifCond .eq 20, 3) := by decide +kernel
theorem dX11_meant_7 : decode cX11_meant 7 = .ok (.aload_n 0, 1) := by decide +kernel
theorem dX11_meant_8 : decode cX11_meant 8 = .ok (.iload_n 3, 1) := by decide +kernel
theorem dX11_meant_9 : decode cX11_meant 9 = .ok (.invokevirtual 167, 3) := by decide +kernel
theorem dX11_meant_12 : decode cX11_meant 12 = .ok (.ifCond .eq 12, 3) := by decide +kernel
theorem dX11_meant_15 : decode cX11_meant 15 = .ok (.aload_n 0, 1) := by decide +kernel
theorem dX11_meant_16 : decode cX11_meant 16 = .ok (.iload 4, 2) := by decide +kernel
theorem dX11_meant_18 : decode cX11_meant 18 = .ok (.invokevirtual 170, 3) := by decide +kernel
theorem dX11_meant_21 : decode cX11_meant 21 = .ok (.ifCond .ne 6, 3) := by decide +kernel
theorem dX11_meant_24 : decode cX11_meant 24 = .ok (.bipush (-2), 2) := by decide +kernel
theorem dX11_meant_26 : decode cX11_meant 26 = .ok (.ireturn, 1) := by decide +kernel
theorem dX11_meant_27 : decode cX11_meant 27 = .ok (.iload_n 1, 1) := by decide +kernel
theorem dX11_meant_28 : decode cX11_meant 28 = .ok (.i2l, 1) := by decide +kernel
theorem dX11_meant_29 : decode cX11_meant 29 = .ok (.lconst 0, 1) := by decide +kernel
theorem dX11_meant_30 : decode cX11_meant 30 = .ok (.lconst 1, 1) := by decide +kernel
theorem dX11_meant_31 : decode cX11_meant 31 = .ok (.invokestatic 80, 3) := by decide +kernel
theorem dX11_meant_34 : decode cX11_meant 34 = .ok (.ifCond .eq 19, 3) := by decide +kernel
theorem dX11_meant_37 : decode cX11_meant 37 = .ok (.aload_n 0, 1) := by decide +kernel
theorem dX11_meant_38 : decode cX11_meant 38 = .ok (.getfield 36, 3) := by decide +kernel
theorem dX11_meant_41 : decode cX11_meant 41 = .ok (.iload_n 1, 1) := by decide +kernel
theorem dX11_meant_42 : decode cX11_meant 42 = .ok (.iload_n 2, 1) := by decide +kernel
theorem dX11_meant_43 : decode cX11_meant 43 = .ok (.iload_n 3, 1) := by decide +kernel
theorem dX11_meant_44 : decode cX11_meant 44 = .ok (.iload 4, 2) := by decide +kernel
theorem dX11_meant_46 : decode cX11_meant 46 = .ok (.invokestatic 146, 3) := by decide +kernel
theorem dX11_meant_49 : decode cX11_meant 49 = .ok (.iaload, 1) := by decide +kernel
theorem dX11_meant_50 : decode cX11_meant 50 = .ok (.goto 5, 3) := by decide +kernel
theorem dX11_meant_53 : decode cX11_meant 53 = .ok (.bipush (-3), 2) := by decide +kernel
theorem dX11_meant_55 : decode cX11_meant 55 = .ok (.ireturn, 1) := by decide +kernel
theorem dX11_done_0 : decode cX11_done 0 = .ok (.iload_n 1, 1) := by decide +kernel
theorem dX11_done_1 : decode cX11_done 1 = .ok (.invokestatic 164, 3) := by decide +kernel
theorem dX11_done_4 : decode cX11_done 4 = .ok (.ifCond .eq 32, 3) := by decide +kernel
theorem dX11_done_7 : decode cX11_done 7 = .ok (.aload_n 0, 1) := by decide +kernel
theorem dX11_done_8 : decode cX11_done 8 = .ok (.iload_n 2, 1) := by decide +kernel
theorem dX11_done_9 : decode cX11_done 9 = .ok (.invokevirtual 167, 3) := by decide +kernel
theorem dX11_done_12 : decode cX11_done 12 = .ok (.ifCond .eq 24, 3) := by decide +kernel
theorem dX11_done_15 : decode cX11_done 15 = .ok (.aload_n 0, 1) := by decide +kernel
theorem dX11_done_16 : decode cX11_done 16 = .ok (.iload_n 3, 1) := by decide +kernel
theorem dX11_done_17 : decode cX11_done 17 = .ok (.invokevirtual 170, 3) := by decide +kernel
theorem dX11_done_20 : decode cX11_done 20 = .ok (.ifCond .eq 16, 3) := by decide +kernel
theorem dX11_done_23 : decode cX11_done 23 = .ok (.iload 4, 2) := by decide +kernel
theorem dX11_done_25 : decode cX11_done 25 = .ok (.i2l, 1) := by decide +kernel
theorem dX11_done_26 : decode cX11_done 26 = .ok (.lconst 0, 1) := by decide +kernel
theorem dX11_done_27 : decode cX11_done 27 = .ok (.ldc2_w 160, 3) := by decide +kernel
theorem dX11_done_30 : decode cX11_done 30 = .ok (.invokestatic 80, 3) := by decide +kernel
theorem dX11_done_33 : decode cX11_done 33 = .ok (.ifCond .ne 6, 3) := by decide +kernel
theorem dX11_done_36 : decode cX11_done 36 = .ok (.bipush (-2), 2) := by decide +kernel
theorem dX11_done_38 : decode cX11_done 38 = .ok (.ireturn, 1) := by decide +kernel
theorem dX11_done_39 : decode cX11_done 39 = .ok (.aload_n 0, 1) := by decide +kernel
theorem dX11_done_40 : decode cX11_done 40 = .ok (.getfield 30, 3) := by decide +kernel
theorem dX11_done_43 : decode cX11_done 43 = .ok (.iconst 4, 1) := by decide +kernel
theorem dX11_done_44 : decode cX11_done 44 = .ok (.iload 4, 2) := by decide +kernel
theorem dX11_done_46 : decode cX11_done 46 = .ok (.imul, 1) := by decide +kernel
theorem dX11_done_47 : decode cX11_done 47 = .ok (.iconst 1, 1) := by decide +kernel
theorem dX11_done_48 : decode cX11_done 48 = .ok (.iadd, 1) := by decide +kernel
theorem dX11_done_49 : decode cX11_done 49 = .ok (.iload_n 1, 1) := by decide +kernel
theorem dX11_done_50 : decode cX11_done 50 = .ok (.iadd, 1) := by decide +kernel
theorem dX11_done_51 : decode cX11_done 51 = .ok (.iaload, 1) := by decide +kernel
theorem dX11_done_52 : decode cX11_done 52 = .ok (.iconst (-1), 1) := by decide +kernel
theorem dX11_done_53 : decode cX11_done 53 = .ok (.if_icmp .ne 6, 3) := by decide +kernel
theorem dX11_done_56 : decode cX11_done 56 = .ok (.bipush (-4), 2) := by decide +kernel
theorem dX11_done_58 : decode cX11_done 58 = .ok (.ireturn, 1) := by decide +kernel
theorem dX11_done_59 : decode cX11_done 59 = .ok (.aload_n 0, 1) := by decide +kernel
theorem dX11_done_60 : decode cX11_done 60 = .ok (.getfield 7, 3) := by decide +kernel
theorem dX11_done_63 : decode cX11_done 63 = .ok (.bipush 39, 2) := by decide +kernel
theorem dX11_done_65 : decode cX11_done 65 = .ok (.bipush 24, 2) := by decide +kernel
theorem dX11_done_67 : decode cX11_done 67 = .ok (.iload_n 1, 1) := by decide +kernel
theorem dX11_done_68 : decode cX11_done 68 = .ok (.imul, 1) := by decide +kernel
theorem dX11_done_69 : decode cX11_done 69 = .ok (.iadd, 1) := by decide +kernel
theorem dX11_done_70 : decode cX11_done 70 = .ok (.iconst 4, 1) := by decide +kernel
theorem dX11_done_71 : decode cX11_done 71 = .ok (.iload_n 2, 1) := by decide +kernel
theorem dX11_done_72 : decode cX11_done 72 = .ok (.imul, 1) := by decide +kernel
theorem dX11_done_73 : decode cX11_done 73 = .ok (.iadd, 1) := by decide +kernel
theorem dX11_done_74 : decode cX11_done 74 = .ok (.iload_n 3, 1) := by decide +kernel
theorem dX11_done_75 : decode cX11_done 75 = .ok (.iadd, 1) := by decide +kernel
theorem dX11_done_76 : decode cX11_done 76 = .ok (.iload 4, 2) := by decide +kernel
theorem dX11_done_78 : decode cX11_done 78 = .ok (.iastore, 1) := by decide +kernel
theorem dX11_done_79 : decode cX11_done 79 = .ok (.iconst 1, 1) := by decide +kernel
theorem dX11_done_80 : decode cX11_done 80 = .ok (.ireturn, 1) := by decide +kernel
theorem dX11_ill_0 : decode cX11_ill 0 = .ok (.iload_n 1, 1) := by decide +kernel
theorem dX11_ill_1 : decode cX11_ill 1 = .ok (.invokestatic 164, 3) := by decide +kernel
theorem dX11_ill_4 : decode cX11_ill 4 = .ok (.ifCond .eq 11, 3) := by decide +kernel
theorem dX11_ill_7 : decode cX11_ill 7 = .ok (.aload_n 0, 1) := by decide +kernel
theorem dX11_ill_8 : decode cX11_ill 8 = .ok (.iload_n 2, 1) := by decide +kernel
theorem dX11_ill_9 : decode cX11_ill 9 = .ok (.invokevirtual 167, 3) := by decide +kernel
theorem dX11_ill_12 : decode cX11_ill 12 = .ok (.ifCond .ne 6, 3) := by decide +kernel
theorem dX11_ill_15 : decode cX11_ill 15 = .ok (.bipush (-2), 2) := by decide +kernel
theorem dX11_ill_17 : decode cX11_ill 17 = .ok (.ireturn, 1) := by decide +kernel
theorem dX11_ill_18 : decode cX11_ill 18 = .ok (.aload_n 0, 1) := by decide +kernel
theorem dX11_ill_19 : decode cX11_ill 19 = .ok (.getfield 7, 3) := by decide +kernel
theorem dX11_ill_22 : decode cX11_ill 22 = .ok (.bipush 27, 2) := by decide +kernel
theorem dX11_ill_24 : decode cX11_ill 24 = .ok (.bipush 6, 2) := by decide +kernel
theorem dX11_ill_26 : decode cX11_ill 26 = .ok (.iload_n 1, 1) := by decide +kernel
theorem dX11_ill_27 : decode cX11_ill 27 = .ok (.imul, 1) := by decide +kernel
theorem dX11_ill_28 : decode cX11_ill 28 = .ok (.iadd, 1) := by decide +kernel
theorem dX11_ill_29 : decode cX11_ill 29 = .ok (.iload_n 2, 1) := by decide +kernel
theorem dX11_ill_30 : decode cX11_ill 30 = .ok (.iadd, 1) := by decide +kernel
theorem dX11_ill_31 : decode cX11_ill 31 = .ok (.iaload, 1) := by decide +kernel
theorem dX11_ill_32 : decode cX11_ill 32 = .ok (.istore 4, 2) := by decide +kernel
theorem dX11_ill_34 : decode cX11_ill 34 = .ok (.aload_n 0, 1) := by decide +kernel
theorem dX11_ill_35 : decode cX11_ill 35 = .ok (.getfield 7, 3) := by decide +kernel
theorem dX11_ill_38 : decode cX11_ill 38 = .ok (.bipush 27, 2) := by decide +kernel
theorem dX11_ill_40 : decode cX11_ill 40 = .ok (.bipush 6, 2) := by decide +kernel
theorem dX11_ill_42 : decode cX11_ill 42 = .ok (.iload_n 1, 1) := by decide +kernel
theorem dX11_ill_43 : decode cX11_ill 43 = .ok (.imul, 1) := by decide +kernel
theorem dX11_ill_44 : decode cX11_ill 44 = .ok (.iadd, 1) := by decide +kernel
theorem dX11_ill_45 : decode cX11_ill 45 = .ok (.iload_n 2, 1) := by decide +kernel
theorem dX11_ill_46 : decode cX11_ill 46 = .ok (.iadd, 1) := by decide +kernel
theorem dX11_ill_47 : decode cX11_ill 47 = .ok (.iload_n 3, 1) := by decide +kernel
theorem dX11_ill_48 : decode cX11_ill 48 = .ok (.ifCond .eq 7, 3) := by decide +kernel
theorem dX11_ill_51 : decode cX11_ill 51 = .ok (.iconst 1, 1) := by decide +kernel
theorem dX11_ill_52 : decode cX11_ill 52 = .ok (.goto 4, 3) := by decide +kernel
theorem dX11_ill_55 : decode cX11_ill 55 = .ok (.iconst 0, 1) := by decide +kernel
theorem dX11_ill_56 : decode cX11_ill 56 = .ok (.iastore, 1) := by decide +kernel
theorem dX11_ill_57 : decode cX11_ill 57 = .ok (.iload 4, 2) := by decide +kernel
theorem dX11_ill_59 : decode cX11_ill 59 = .ok (.ireturn, 1) := by decide +kernel
theorem dX11_meansOf_0 : decode cX11_meansOf 0 = .ok (.aload_n 0, 1) := by decide +kernel
theorem dX11_meansOf_1 : decode cX11_meansOf 1 = .ok (.getfield 36, 3) := by decide +kernel
theorem dX11_meansOf_4 : decode cX11_meansOf 4 = .ok (.aload_n 0, 1) := by decide +kernel
theorem dX11_meansOf_5 : decode cX11_meansOf 5 = .ok (.getfield 7, 3) := by decide +kernel
theorem dX11_meansOf_8 : decode cX11_meansOf 8 = .ok (.iconst 0, 1) := by decide +kernel
theorem dX11_meansOf_9 : decode cX11_meansOf 9 = .ok (.iaload, 1) := by decide +kernel
theorem dX11_meansOf_10 : decode cX11_meansOf 10 = .ok (.iconst 2, 1) := by decide +kernel
theorem dX11_meansOf_11 : decode cX11_meansOf 11 = .ok (.irem, 1) := by decide +kernel
theorem dX11_meansOf_12 : decode cX11_meansOf 12 = .ok (.iload_n 1, 1) := by decide +kernel
theorem dX11_meansOf_13 : decode cX11_meansOf 13 = .ok (.iload_n 2, 1) := by decide +kernel
theorem dX11_meansOf_14 : decode cX11_meansOf 14 = .ok (.iload_n 3, 1) := by decide +kernel
theorem dX11_meansOf_15 : decode cX11_meansOf 15 = .ok (.invokestatic 146, 3) := by decide +kernel
theorem dX11_meansOf_18 : decode cX11_meansOf 18 = .ok (.iaload, 1) := by decide +kernel
theorem dX11_meansOf_19 : decode cX11_meansOf 19 = .ok (.ireturn, 1) := by decide +kernel
theorem dX11_may_0 : decode cX11_may 0 = .ok (.aload_n 0, 1) := by decide +kernel
theorem dX11_may_1 : decode cX11_may 1 = .ok (.getfield 33, 3) := by decide +kernel
theorem dX11_may_4 : decode cX11_may 4 = .ok (.iload_n 2, 1) := by decide +kernel
theorem dX11_may_5 : decode cX11_may 5 = .ok (.iaload, 1) := by decide +kernel
theorem dX11_may_6 : decode cX11_may 6 = .ok (.iconst 1, 1) := by decide +kernel
theorem dX11_may_7 : decode cX11_may 7 = .ok (.if_icmp .ne 20, 3) := by decide +kernel
theorem dX11_may_10 : decode cX11_may 10 = .ok (.aload_n 0, 1) := by decide +kernel
theorem dX11_may_11 : decode cX11_may 11 = .ok (.getfield 30, 3) := by decide +kernel
theorem dX11_may_14 : decode cX11_may 14 = .ok (.iconst 4, 1) := by decide +kernel
theorem dX11_may_15 : decode cX11_may 15 = .ok (.iload 4, 2) := by decide +kernel
theorem dX11_may_17 : decode cX11_may 17 = .ok (.imul, 1) := by decide +kernel
theorem dX11_may_18 : decode cX11_may 18 = .ok (.iaload, 1) := by decide +kernel
theorem dX11_may_19 : decode cX11_may 19 = .ok (.iconst 3, 1) := by decide +kernel
theorem dX11_may_20 : decode cX11_may 20 = .ok (.if_icmp .ne 7, 3) := by decide +kernel
theorem dX11_may_23 : decode cX11_may 23 = .ok (.iconst 1, 1) := by decide +kernel
theorem dX11_may_24 : decode cX11_may 24 = .ok (.goto 4, 3) := by decide +kernel
theorem dX11_may_27 : decode cX11_may 27 = .ok (.iconst 0, 1) := by decide +kernel
theorem dX11_may_28 : decode cX11_may 28 = .ok (.istore 5, 2) := by decide +kernel
theorem dX11_may_30 : decode cX11_may 30 = .ok (.aload_n 0, 1) := by decide +kernel
theorem dX11_may_31 : decode cX11_may 31 = .ok (.getfield 33, 3) := by decide +kernel
theorem dX11_may_34 : decode cX11_may 34 = .ok (.iload_n 2, 1) := by decide +kernel
theorem dX11_may_35 : decode cX11_may 35 = .ok (.iaload, 1) := by decide +kernel
theorem dX11_may_36 : decode cX11_may 36 = .ok (.iconst 2, 1) := by decide +kernel
theorem dX11_may_37 : decode cX11_may 37 = .ok (.if_icmp .ne 25, 3) := by decide +kernel
theorem dX11_may_40 : decode cX11_may 40 = .ok (.aload_n 0, 1) := by decide +kernel
theorem dX11_may_41 : decode cX11_may 41 = .ok (.getfield 27, 3) := by decide +kernel
theorem dX11_may_44 : decode cX11_may 44 = .ok (.iconst 1, 1) := by decide +kernel
theorem dX11_may_45 : decode cX11_may 45 = .ok (.if_icmp .le 17, 3) := by decide +kernel
theorem dX11_may_48 : decode cX11_may 48 = .ok (.iload_n 3, 1) := by decide +kernel
theorem dX11_may_49 : decode cX11_may 49 = .ok (.aload_n 0, 1) := by decide +kernel
theorem dX11_may_50 : decode cX11_may 50 = .ok (.getfield 27, 3) := by decide +kernel
theorem dX11_may_53 : decode cX11_may 53 = .ok (.iconst 1, 1) := by decide +kernel
theorem dX11_may_54 : decode cX11_may 54 = .ok (.isub, 1) := by decide +kernel
theorem dX11_may_55 : decode cX11_may 55 = .ok (.if_icmp .ne 7, 3) := by decide +kernel
theorem dX11_may_58 : decode cX11_may 58 = .ok (.iconst 1, 1) := by decide +kernel
theorem dX11_may_59 : decode cX11_may 59 = .ok (.goto 4, 3) := by decide +kernel
theorem dX11_may_62 : decode cX11_may 62 = .ok (.iconst 0, 1) := by decide +kernel
theorem dX11_may_63 : decode cX11_may 63 = .ok (.istore 6, 2) := by decide +kernel
theorem dX11_may_65 : decode cX11_may 65 = .ok (.iload 4, 2) := by decide +kernel
theorem dX11_may_67 : decode cX11_may 67 = .ok (.iconst 5, 1) := by decide +kernel
theorem dX11_may_68 : decode cX11_may 68 = .ok (.if_icmp .eq 30, 3) := by decide +kernel
theorem dX11_may_71 : decode cX11_may 71 = .ok (.aload_n 0, 1) := by decide +kernel
theorem dX11_may_72 : decode cX11_may 72 = .ok (.getfield 30, 3) := by decide +kernel
theorem dX11_may_75 : decode cX11_may 75 = .ok (.iconst 4, 1) := by decide +kernel
theorem dX11_may_76 : decode cX11_may 76 = .ok (.iload 4, 2) := by decide +kernel
theorem dX11_may_78 : decode cX11_may 78 = .ok (.imul, 1) := by decide +kernel
theorem dX11_may_79 : decode cX11_may 79 = .ok (.iconst 1, 1) := by decide +kernel
theorem dX11_may_80 : decode cX11_may 80 = .ok (.iadd, 1) := by decide +kernel
theorem dX11_may_81 : decode cX11_may 81 = .ok (.iload_n 1, 1) := by decide +kernel
theorem dX11_may_82 : decode cX11_may 82 = .ok (.iadd, 1) := by decide +kernel
theorem dX11_may_83 : decode cX11_may 83 = .ok (.iaload, 1) := by decide +kernel
theorem dX11_may_84 : decode cX11_may 84 = .ok (.iconst (-1), 1) := by decide +kernel
theorem dX11_may_85 : decode cX11_may 85 = .ok (.if_icmp .eq 17, 3) := by decide +kernel
theorem dX11_may_88 : decode cX11_may 88 = .ok (.iload 5, 2) := by decide +kernel
theorem dX11_may_90 : decode cX11_may 90 = .ok (.ifCond .ne 12, 3) := by decide +kernel
theorem dX11_may_93 : decode cX11_may 93 = .ok (.iload 6, 2) := by decide +kernel
theorem dX11_may_95 : decode cX11_may 95 = .ok (.ifCond .ne 7, 3) := by decide +kernel
theorem dX11_may_98 : decode cX11_may 98 = .ok (.iconst 1, 1) := by decide +kernel
theorem dX11_may_99 : decode cX11_may 99 = .ok (.goto 4, 3) := by decide +kernel
theorem dX11_may_102 : decode cX11_may 102 = .ok (.iconst 0, 1) := by decide +kernel
theorem dX11_may_103 : decode cX11_may 103 = .ok (.ireturn, 1) := by decide +kernel
theorem dX11_does_0 : decode cX11_does 0 = .ok (.aload_n 0, 1) := by decide +kernel
theorem dX11_does_1 : decode cX11_does 1 = .ok (.getfield 7, 3) := by decide +kernel
theorem dX11_does_4 : decode cX11_does 4 = .ok (.bipush 39, 2) := by decide +kernel
theorem dX11_does_6 : decode cX11_does 6 = .ok (.bipush 24, 2) := by decide +kernel
theorem dX11_does_8 : decode cX11_does 8 = .ok (.iload_n 1, 1) := by decide +kernel
theorem dX11_does_9 : decode cX11_does 9 = .ok (.imul, 1) := by decide +kernel
theorem dX11_does_10 : decode cX11_does 10 = .ok (.iadd, 1) := by decide +kernel
theorem dX11_does_11 : decode cX11_does 11 = .ok (.iconst 4, 1) := by decide +kernel
theorem dX11_does_12 : decode cX11_does 12 = .ok (.iload_n 2, 1) := by decide +kernel
theorem dX11_does_13 : decode cX11_does 13 = .ok (.imul, 1) := by decide +kernel
theorem dX11_does_14 : decode cX11_does 14 = .ok (.iadd, 1) := by decide +kernel
theorem dX11_does_15 : decode cX11_does 15 = .ok (.iload_n 3, 1) := by decide +kernel
theorem dX11_does_16 : decode cX11_does 16 = .ok (.iadd, 1) := by decide +kernel
theorem dX11_does_17 : decode cX11_does 17 = .ok (.iaload, 1) := by decide +kernel
theorem dX11_does_18 : decode cX11_does 18 = .ok (.istore 4, 2) := by decide +kernel
theorem dX11_does_20 : decode cX11_does 20 = .ok (.iload 4, 2) := by decide +kernel
theorem dX11_does_22 : decode cX11_does 22 = .ok (.iconst (-1), 1) := by decide +kernel
theorem dX11_does_23 : decode cX11_does 23 = .ok (.if_icmp .ne 13, 3) := by decide +kernel
theorem dX11_does_26 : decode cX11_does 26 = .ok (.aload_n 0, 1) := by decide +kernel
theorem dX11_does_27 : decode cX11_does 27 = .ok (.iload_n 1, 1) := by decide +kernel
theorem dX11_does_28 : decode cX11_does 28 = .ok (.iload_n 2, 1) := by decide +kernel
theorem dX11_does_29 : decode cX11_does 29 = .ok (.iload_n 3, 1) := by decide +kernel
theorem dX11_does_30 : decode cX11_does 30 = .ok (.invokevirtual 173, 3) := by decide +kernel
theorem dX11_does_33 : decode cX11_does 33 = .ok (.goto 5, 3) := by decide +kernel
theorem dX11_does_36 : decode cX11_does 36 = .ok (.iload 4, 2) := by decide +kernel
theorem dX11_does_38 : decode cX11_does 38 = .ok (.istore 5, 2) := by decide +kernel
theorem dX11_does_40 : decode cX11_does 40 = .ok (.aload_n 0, 1) := by decide +kernel
theorem dX11_does_41 : decode cX11_does 41 = .ok (.getfield 7, 3) := by decide +kernel
theorem dX11_does_44 : decode cX11_does 44 = .ok (.bipush 27, 2) := by decide +kernel
theorem dX11_does_46 : decode cX11_does 46 = .ok (.bipush 6, 2) := by decide +kernel
theorem dX11_does_48 : decode cX11_does 48 = .ok (.iload_n 1, 1) := by decide +kernel
theorem dX11_does_49 : decode cX11_does 49 = .ok (.imul, 1) := by decide +kernel
theorem dX11_does_50 : decode cX11_does 50 = .ok (.iadd, 1) := by decide +kernel
theorem dX11_does_51 : decode cX11_does 51 = .ok (.iload_n 2, 1) := by decide +kernel
theorem dX11_does_52 : decode cX11_does 52 = .ok (.iadd, 1) := by decide +kernel
theorem dX11_does_53 : decode cX11_does 53 = .ok (.iaload, 1) := by decide +kernel
theorem dX11_does_54 : decode cX11_does 54 = .ok (.ifCond .ne 20, 3) := by decide +kernel
theorem dX11_does_57 : decode cX11_does 57 = .ok (.aload_n 0, 1) := by decide +kernel
theorem dX11_does_58 : decode cX11_does 58 = .ok (.iload_n 1, 1) := by decide +kernel
theorem dX11_does_59 : decode cX11_does 59 = .ok (.iload_n 2, 1) := by decide +kernel
theorem dX11_does_60 : decode cX11_does 60 = .ok (.iload_n 3, 1) := by decide +kernel
theorem dX11_does_61 : decode cX11_does 61 = .ok (.iload 5, 2) := by decide +kernel
theorem dX11_does_63 : decode cX11_does 63 = .ok (.invokevirtual 177, 3) := by decide +kernel
theorem dX11_does_66 : decode cX11_does 66 = .ok (.ifCond .eq 8, 3) := by decide +kernel
theorem dX11_does_69 : decode cX11_does 69 = .ok (.iload 5, 2) := by decide +kernel
theorem dX11_does_71 : decode cX11_does 71 = .ok (.goto 4, 3) := by decide +kernel
theorem dX11_does_74 : decode cX11_does 74 = .ok (.iconst 5, 1) := by decide +kernel
theorem dX11_does_75 : decode cX11_does 75 = .ok (.ireturn, 1) := by decide +kernel
theorem dX11_isBreach_0 : decode cX11_isBreach 0 = .ok (.aload_n 0, 1) := by decide +kernel
theorem dX11_isBreach_1 : decode cX11_isBreach 1 = .ok (.getfield 33, 3) := by decide +kernel
theorem dX11_isBreach_4 : decode cX11_isBreach 4 = .ok (.iload_n 1, 1) := by decide +kernel
theorem dX11_isBreach_5 : decode cX11_isBreach 5 = .ok (.iaload, 1) := by decide +kernel
theorem dX11_isBreach_6 : decode cX11_isBreach 6 = .ok (.iconst 3, 1) := by decide +kernel
theorem dX11_isBreach_7 : decode cX11_isBreach 7 = .ok (.if_icmp .eq 29, 3) := by decide +kernel
theorem dX11_isBreach_10 : decode cX11_isBreach 10 = .ok (.aload_n 0, 1) := by decide +kernel
theorem dX11_isBreach_11 : decode cX11_isBreach 11 = .ok (.getfield 7, 3) := by decide +kernel
theorem dX11_isBreach_14 : decode cX11_isBreach 14 = .ok (.bipush 27, 2) := by decide +kernel
theorem dX11_isBreach_16 : decode cX11_isBreach 16 = .ok (.iload_n 1, 1) := by decide +kernel
theorem dX11_isBreach_17 : decode cX11_isBreach 17 = .ok (.iadd, 1) := by decide +kernel
theorem dX11_isBreach_18 : decode cX11_isBreach 18 = .ok (.iaload, 1) := by decide +kernel
theorem dX11_isBreach_19 : decode cX11_isBreach 19 = .ok (.iconst 1, 1) := by decide +kernel
theorem dX11_isBreach_20 : decode cX11_isBreach 20 = .ok (.if_icmp .eq 16, 3) := by decide +kernel
theorem dX11_isBreach_23 : decode cX11_isBreach 23 = .ok (.aload_n 0, 1) := by decide +kernel
theorem dX11_isBreach_24 : decode cX11_isBreach 24 = .ok (.getfield 7, 3) := by decide +kernel
theorem dX11_isBreach_27 : decode cX11_isBreach 27 = .ok (.bipush 33, 2) := by decide +kernel
theorem dX11_isBreach_29 : decode cX11_isBreach 29 = .ok (.iload_n 1, 1) := by decide +kernel
theorem dX11_isBreach_30 : decode cX11_isBreach 30 = .ok (.iadd, 1) := by decide +kernel
theorem dX11_isBreach_31 : decode cX11_isBreach 31 = .ok (.iaload, 1) := by decide +kernel
theorem dX11_isBreach_32 : decode cX11_isBreach 32 = .ok (.iconst 1, 1) := by decide +kernel
theorem dX11_isBreach_33 : decode cX11_isBreach 33 = .ok (.if_icmp .ne 5, 3) := by decide +kernel
theorem dX11_isBreach_36 : decode cX11_isBreach 36 = .ok (.iconst 0, 1) := by decide +kernel
theorem dX11_isBreach_37 : decode cX11_isBreach 37 = .ok (.ireturn, 1) := by decide +kernel
theorem dX11_isBreach_38 : decode cX11_isBreach 38 = .ok (.aload_n 0, 1) := by decide +kernel
theorem dX11_isBreach_39 : decode cX11_isBreach 39 = .ok (.getfield 30, 3) := by decide +kernel
theorem dX11_isBreach_42 : decode cX11_isBreach 42 = .ok (.iconst 4, 1) := by decide +kernel
theorem dX11_isBreach_43 : decode cX11_isBreach 43 = .ok (.aload_n 0, 1) := by decide +kernel
theorem dX11_isBreach_44 : decode cX11_isBreach 44 = .ok (.iconst 0, 1) := by decide +kernel
theorem dX11_isBreach_45 : decode cX11_isBreach 45 = .ok (.iload_n 1, 1) := by decide +kernel
theorem dX11_isBreach_46 : decode cX11_isBreach 46 = .ok (.iload_n 2, 1) := by decide +kernel
theorem dX11_isBreach_47 : decode cX11_isBreach 47 = .ok (.invokevirtual 181, 3) := by decide +kernel
theorem dX11_isBreach_50 : decode cX11_isBreach 50 = .ok (.imul, 1) := by decide +kernel
theorem dX11_isBreach_51 : decode cX11_isBreach 51 = .ok (.iaload, 1) := by decide +kernel
theorem dX11_isBreach_52 : decode cX11_isBreach 52 = .ok (.aload_n 0, 1) := by decide +kernel
theorem dX11_isBreach_53 : decode cX11_isBreach 53 = .ok (.getfield 30, 3) := by decide +kernel
theorem dX11_isBreach_56 : decode cX11_isBreach 56 = .ok (.iconst 4, 1) := by decide +kernel
theorem dX11_isBreach_57 : decode cX11_isBreach 57 = .ok (.aload_n 0, 1) := by decide +kernel
theorem dX11_isBreach_58 : decode cX11_isBreach 58 = .ok (.iconst 1, 1) := by decide +kernel
theorem dX11_isBreach_59 : decode cX11_isBreach 59 = .ok (.iload_n 1, 1) := by decide +kernel
theorem dX11_isBreach_60 : decode cX11_isBreach 60 = .ok (.iload_n 2, 1) := by decide +kernel
theorem dX11_isBreach_61 : decode cX11_isBreach 61 = .ok (.invokevirtual 181, 3) := by decide +kernel
theorem dX11_isBreach_64 : decode cX11_isBreach 64 = .ok (.imul, 1) := by decide +kernel
theorem dX11_isBreach_65 : decode cX11_isBreach 65 = .ok (.iaload, 1) := by decide +kernel
theorem dX11_isBreach_66 : decode cX11_isBreach 66 = .ok (.if_icmp .ne 7, 3) := by decide +kernel
theorem dX11_isBreach_69 : decode cX11_isBreach 69 = .ok (.iconst 1, 1) := by decide +kernel
theorem dX11_isBreach_70 : decode cX11_isBreach 70 = .ok (.goto 4, 3) := by decide +kernel
theorem dX11_isBreach_73 : decode cX11_isBreach 73 = .ok (.iconst 0, 1) := by decide +kernel
theorem dX11_isBreach_74 : decode cX11_isBreach 74 = .ok (.istore_n 3, 1) := by decide +kernel
theorem dX11_isBreach_75 : decode cX11_isBreach 75 = .ok (.iload_n 3, 1) := by decide +kernel
theorem dX11_isBreach_76 : decode cX11_isBreach 76 = .ok (.aload_n 0, 1) := by decide +kernel
theorem dX11_isBreach_77 : decode cX11_isBreach 77 = .ok (.getfield 7, 3) := by decide +kernel
theorem dX11_isBreach_80 : decode cX11_isBreach 80 = .ok (.iconst 0, 1) := by decide +kernel
theorem dX11_isBreach_81 : decode cX11_isBreach 81 = .ok (.iaload, 1) := by decide +kernel
theorem dX11_isBreach_82 : decode cX11_isBreach 82 = .ok (.iconst 2, 1) := by decide +kernel
theorem dX11_isBreach_83 : decode cX11_isBreach 83 = .ok (.irem, 1) := by decide +kernel
theorem dX11_isBreach_84 : decode cX11_isBreach 84 = .ok (.iconst 1, 1) := by decide +kernel
theorem dX11_isBreach_85 : decode cX11_isBreach 85 = .ok (.if_icmp .ne 7, 3) := by decide +kernel
theorem dX11_isBreach_88 : decode cX11_isBreach 88 = .ok (.iconst 1, 1) := by decide +kernel
theorem dX11_isBreach_89 : decode cX11_isBreach 89 = .ok (.goto 4, 3) := by decide +kernel
theorem dX11_isBreach_92 : decode cX11_isBreach 92 = .ok (.iconst 0, 1) := by decide +kernel
theorem dX11_isBreach_93 : decode cX11_isBreach 93 = .ok (.if_icmp .ne 7, 3) := by decide +kernel
theorem dX11_isBreach_96 : decode cX11_isBreach 96 = .ok (.iconst 1, 1) := by decide +kernel
theorem dX11_isBreach_97 : decode cX11_isBreach 97 = .ok (.goto 4, 3) := by decide +kernel
theorem dX11_isBreach_100 : decode cX11_isBreach 100 = .ok (.iconst 0, 1) := by decide +kernel
theorem dX11_isBreach_101 : decode cX11_isBreach 101 = .ok (.ireturn, 1) := by decide +kernel
theorem dX11_strays_0 : decode cX11_strays 0 = .ok (.aload_n 0, 1) := by decide +kernel
theorem dX11_strays_1 : decode cX11_strays 1 = .ok (.getfield 7, 3) := by decide +kernel
theorem dX11_strays_4 : decode cX11_strays 4 = .ok (.bipush 39, 2) := by decide +kernel
theorem dX11_strays_6 : decode cX11_strays 6 = .ok (.bipush 24, 2) := by decide +kernel
theorem dX11_strays_8 : decode cX11_strays 8 = .ok (.iload_n 1, 1) := by decide +kernel
theorem dX11_strays_9 : decode cX11_strays 9 = .ok (.imul, 1) := by decide +kernel
theorem dX11_strays_10 : decode cX11_strays 10 = .ok (.iadd, 1) := by decide +kernel
theorem dX11_strays_11 : decode cX11_strays 11 = .ok (.iconst 4, 1) := by decide +kernel
theorem dX11_strays_12 : decode cX11_strays 12 = .ok (.iload_n 2, 1) := by decide +kernel
theorem dX11_strays_13 : decode cX11_strays 13 = .ok (.imul, 1) := by decide +kernel
theorem dX11_strays_14 : decode cX11_strays 14 = .ok (.iadd, 1) := by decide +kernel
theorem dX11_strays_15 : decode cX11_strays 15 = .ok (.iload_n 3, 1) := by decide +kernel
theorem dX11_strays_16 : decode cX11_strays 16 = .ok (.iadd, 1) := by decide +kernel
theorem dX11_strays_17 : decode cX11_strays 17 = .ok (.iaload, 1) := by decide +kernel
theorem dX11_strays_18 : decode cX11_strays 18 = .ok (.istore 4, 2) := by decide +kernel
theorem dX11_strays_20 : decode cX11_strays 20 = .ok (.iload 4, 2) := by decide +kernel
theorem dX11_strays_22 : decode cX11_strays 22 = .ok (.iconst (-1), 1) := by decide +kernel
theorem dX11_strays_23 : decode cX11_strays 23 = .ok (.if_icmp .eq 19, 3) := by decide +kernel
theorem dX11_strays_26 : decode cX11_strays 26 = .ok (.iload 4, 2) := by decide +kernel
theorem dX11_strays_28 : decode cX11_strays 28 = .ok (.aload_n 0, 1) := by decide +kernel
theorem dX11_strays_29 : decode cX11_strays 29 = .ok (.iload_n 1, 1) := by decide +kernel
theorem dX11_strays_30 : decode cX11_strays 30 = .ok (.iload_n 2, 1) := by decide +kernel
theorem dX11_strays_31 : decode cX11_strays 31 = .ok (.iload_n 3, 1) := by decide +kernel
theorem dX11_strays_32 : decode cX11_strays 32 = .ok (.invokevirtual 173, 3) := by decide +kernel
theorem dX11_strays_35 : decode cX11_strays 35 = .ok (.if_icmp .eq 7, 3) := by decide +kernel
theorem dX11_strays_38 : decode cX11_strays 38 = .ok (.iconst 1, 1) := by decide +kernel
theorem dX11_strays_39 : decode cX11_strays 39 = .ok (.goto 4, 3) := by decide +kernel
theorem dX11_strays_42 : decode cX11_strays 42 = .ok (.iconst 0, 1) := by decide +kernel
theorem dX11_strays_43 : decode cX11_strays 43 = .ok (.ireturn, 1) := by decide +kernel
theorem dX11_charge_0 : decode cX11_charge 0 = .ok (.aload_n 0, 1) := by decide +kernel
theorem dX11_charge_1 : decode cX11_charge 1 = .ok (.getfield 7, 3) := by decide +kernel
theorem dX11_charge_4 : decode cX11_charge 4 = .ok (.iconst 3, 1) := by decide +kernel
theorem dX11_charge_5 : decode cX11_charge 5 = .ok (.bipush 6, 2) := by decide +kernel
theorem dX11_charge_7 : decode cX11_charge 7 = .ok (.iload_n 1, 1) := by decide +kernel
theorem dX11_charge_8 : decode cX11_charge 8 = .ok (.imul, 1) := by decide +kernel
theorem dX11_charge_9 : decode cX11_charge 9 = .ok (.iadd, 1) := by decide +kernel
theorem dX11_charge_10 : decode cX11_charge 10 = .ok (.iload_n 2, 1) := by decide +kernel
theorem dX11_charge_11 : decode cX11_charge 11 = .ok (.iadd, 1) := by decide +kernel
theorem dX11_charge_12 : decode cX11_charge 12 = .ok (.dup2, 1) := by decide +kernel
theorem dX11_charge_13 : decode cX11_charge 13 = .ok (.iaload, 1) := by decide +kernel
theorem dX11_charge_14 : decode cX11_charge 14 = .ok (.iconst 1, 1) := by decide +kernel
theorem dX11_charge_15 : decode cX11_charge 15 = .ok (.iadd, 1) := by decide +kernel
theorem dX11_charge_16 : decode cX11_charge 16 = .ok (.iastore, 1) := by decide +kernel
theorem dX11_charge_17 : decode cX11_charge 17 = .ok (.aload_n 0, 1) := by decide +kernel
theorem dX11_charge_18 : decode cX11_charge 18 = .ok (.getfield 7, 3) := by decide +kernel
theorem dX11_charge_21 : decode cX11_charge 21 = .ok (.bipush 15, 2) := by decide +kernel
theorem dX11_charge_23 : decode cX11_charge 23 = .ok (.bipush 6, 2) := by decide +kernel
theorem dX11_charge_25 : decode cX11_charge 25 = .ok (.iload_n 1, 1) := by decide +kernel
theorem dX11_charge_26 : decode cX11_charge 26 = .ok (.imul, 1) := by decide +kernel
theorem dX11_charge_27 : decode cX11_charge 27 = .ok (.iadd, 1) := by decide +kernel
theorem dX11_charge_28 : decode cX11_charge 28 = .ok (.iload_n 2, 1) := by decide +kernel
theorem dX11_charge_29 : decode cX11_charge 29 = .ok (.iadd, 1) := by decide +kernel
theorem dX11_charge_30 : decode cX11_charge 30 = .ok (.dup2, 1) := by decide +kernel
theorem dX11_charge_31 : decode cX11_charge 31 = .ok (.iaload, 1) := by decide +kernel
theorem dX11_charge_32 : decode cX11_charge 32 = .ok (.aload_n 0, 1) := by decide +kernel
theorem dX11_charge_33 : decode cX11_charge 33 = .ok (.getfield 39, 3) := by decide +kernel
theorem dX11_charge_36 : decode cX11_charge 36 = .ok (.iadd, 1) := by decide +kernel
theorem dX11_charge_37 : decode cX11_charge 37 = .ok (.iastore, 1) := by decide +kernel
theorem dX11_charge_38 : decode cX11_charge 38 = .ok (.return_, 1) := by decide +kernel
theorem dX11_day_0 : decode cX11_day 0 = .ok (.iconst 0, 1) := by decide +kernel
theorem dX11_day_1 : decode cX11_day 1 = .ok (.istore_n 1, 1) := by decide +kernel
theorem dX11_day_2 : decode cX11_day 2 = .ok (.iload_n 1, 1) := by decide +kernel
theorem dX11_day_3 : decode cX11_day 3 = .ok (.aload_n 0, 1) := by decide +kernel
theorem dX11_day_4 : decode cX11_day 4 = .ok (.getfield 23, 3) := by decide +kernel
theorem dX11_day_7 : decode cX11_day 7 = .ok (.if_icmp .ge 170, 3) := by decide +kernel
theorem dX11_day_10 : decode cX11_day 10 = .ok (.iconst 0, 1) := by decide +kernel
theorem dX11_day_11 : decode cX11_day 11 = .ok (.istore_n 2, 1) := by decide +kernel
theorem dX11_day_12 : decode cX11_day 12 = .ok (.iload_n 2, 1) := by decide +kernel
theorem dX11_day_13 : decode cX11_day 13 = .ok (.aload_n 0, 1) := by decide +kernel
theorem dX11_day_14 : decode cX11_day 14 = .ok (.getfield 27, 3) := by decide +kernel
theorem dX11_day_17 : decode cX11_day 17 = .ok (.if_icmp .ge 128, 3) := by decide +kernel
theorem dX11_day_20 : decode cX11_day 20 = .ok (.aload_n 0, 1) := by decide +kernel
theorem dX11_day_21 : decode cX11_day 21 = .ok (.iload_n 1, 1) := by decide +kernel
theorem dX11_day_22 : decode cX11_day 22 = .ok (.iload_n 2, 1) := by decide +kernel
theorem dX11_day_23 : decode cX11_day 23 = .ok (.invokevirtual 184, 3) := by decide +kernel
theorem dX11_day_26 : decode cX11_day 26 = .ok (.ifCond .eq 50, 3) := by decide +kernel
theorem dX11_day_29 : decode cX11_day 29 = .ok (.aload_n 0, 1) := by decide +kernel
theorem dX11_day_30 : decode cX11_day 30 = .ok (.iconst 0, 1) := by decide +kernel
theorem dX11_day_31 : decode cX11_day 31 = .ok (.iload_n 1, 1) := by decide +kernel
theorem dX11_day_32 : decode cX11_day 32 = .ok (.iload_n 2, 1) := by decide +kernel
theorem dX11_day_33 : decode cX11_day 33 = .ok (.invokevirtual 187, 3) := by decide +kernel
theorem dX11_day_36 : decode cX11_day 36 = .ok (.istore_n 3, 1) := by decide +kernel
theorem dX11_day_37 : decode cX11_day 37 = .ok (.aload_n 0, 1) := by decide +kernel
theorem dX11_day_38 : decode cX11_day 38 = .ok (.iconst 1, 1) := by decide +kernel
theorem dX11_day_39 : decode cX11_day 39 = .ok (.iload_n 1, 1) := by decide +kernel
theorem dX11_day_40 : decode cX11_day 40 = .ok (.iload_n 2, 1) := by decide +kernel
theorem dX11_day_41 : decode cX11_day 41 = .ok (.invokevirtual 187, 3) := by decide +kernel
theorem dX11_day_44 : decode cX11_day 44 = .ok (.istore 4, 2) := by decide +kernel
theorem dX11_day_46 : decode cX11_day 46 = .ok (.iload_n 3, 1) := by decide +kernel
theorem dX11_day_47 : decode cX11_day 47 = .ok (.ifCond .ne 8, 3) := by decide +kernel
theorem dX11_day_50 : decode cX11_day 50 = .ok (.iload 4, 2) := by decide +kernel
theorem dX11_day_52 : decode cX11_day 52 = .ok (.ifCond .ne 9, 3) := by decide +kernel
theorem dX11_day_55 : decode cX11_day 55 = .ok (.aload_n 0, 1) := by decide +kernel
theorem dX11_day_56 : decode cX11_day 56 = .ok (.iconst 0, 1) := by decide +kernel
theorem dX11_day_57 : decode cX11_day 57 = .ok (.iload_n 1, 1) := by decide +kernel
theorem dX11_day_58 : decode cX11_day 58 = .ok (.invokevirtual 190, 3) := by decide +kernel
theorem dX11_day_61 : decode cX11_day 61 = .ok (.iload 4, 2) := by decide +kernel
theorem dX11_day_63 : decode cX11_day 63 = .ok (.ifCond .ne 7, 3) := by decide +kernel
theorem dX11_day_66 : decode cX11_day 66 = .ok (.iload_n 3, 1) := by decide +kernel
theorem dX11_day_67 : decode cX11_day 67 = .ok (.ifCond .ne 9, 3) := by decide +kernel
theorem dX11_day_70 : decode cX11_day 70 = .ok (.aload_n 0, 1) := by decide +kernel
theorem dX11_day_71 : decode cX11_day 71 = .ok (.iconst 1, 1) := by decide +kernel
theorem dX11_day_72 : decode cX11_day 72 = .ok (.iload_n 1, 1) := by decide +kernel
theorem dX11_day_73 : decode cX11_day 73 = .ok (.invokevirtual 190, 3) := by decide +kernel
theorem dX11_day_76 : decode cX11_day 76 = .ok (.iconst 0, 1) := by decide +kernel
theorem dX11_day_77 : decode cX11_day 77 = .ok (.istore_n 3, 1) := by decide +kernel
theorem dX11_day_78 : decode cX11_day 78 = .ok (.iload_n 3, 1) := by decide +kernel
theorem dX11_day_79 : decode cX11_day 79 = .ok (.iconst 2, 1) := by decide +kernel
theorem dX11_day_80 : decode cX11_day 80 = .ok (.if_icmp .ge 59, 3) := by decide +kernel
theorem dX11_day_83 : decode cX11_day 83 = .ok (.aload_n 0, 1) := by decide +kernel
theorem dX11_day_84 : decode cX11_day 84 = .ok (.getfield 30, 3) := by decide +kernel
theorem dX11_day_87 : decode cX11_day 87 = .ok (.iconst 4, 1) := by decide +kernel
theorem dX11_day_88 : decode cX11_day 88 = .ok (.aload_n 0, 1) := by decide +kernel
theorem dX11_day_89 : decode cX11_day 89 = .ok (.iload_n 3, 1) := by decide +kernel
theorem dX11_day_90 : decode cX11_day 90 = .ok (.iload_n 1, 1) := by decide +kernel
theorem dX11_day_91 : decode cX11_day 91 = .ok (.iload_n 2, 1) := by decide +kernel
theorem dX11_day_92 : decode cX11_day 92 = .ok (.invokevirtual 181, 3) := by decide +kernel
theorem dX11_day_95 : decode cX11_day 95 = .ok (.imul, 1) := by decide +kernel
theorem dX11_day_96 : decode cX11_day 96 = .ok (.iconst 1, 1) := by decide +kernel
theorem dX11_day_97 : decode cX11_day 97 = .ok (.iadd, 1) := by decide +kernel
theorem dX11_day_98 : decode cX11_day 98 = .ok (.iload_n 3, 1) := by decide +kernel
theorem dX11_day_99 : decode cX11_day 99 = .ok (.iadd, 1) := by decide +kernel
theorem dX11_day_100 : decode cX11_day 100 = .ok (.iaload, 1) := by decide +kernel
theorem dX11_day_101 : decode cX11_day 101 = .ok (.istore 4, 2) := by decide +kernel
theorem dX11_day_103 : decode cX11_day 103 = .ok (.aload_n 0, 1) := by decide +kernel
theorem dX11_day_104 : decode cX11_day 104 = .ok (.getfield 7, 3) := by decide +kernel
theorem dX11_day_107 : decode cX11_day 107 = .ok (.iconst 1, 1) := by decide +kernel
theorem dX11_day_108 : decode cX11_day 108 = .ok (.iload_n 3, 1) := by decide +kernel
theorem dX11_day_109 : decode cX11_day 109 = .ok (.iadd, 1) := by decide +kernel
theorem dX11_day_110 : decode cX11_day 110 = .ok (.dup2, 1) := by decide +kernel
theorem dX11_day_111 : decode cX11_day 111 = .ok (.iaload, 1) := by decide +kernel
theorem dX11_day_112 : decode cX11_day 112 = .ok (.aload_n 0, 1) := by decide +kernel
theorem dX11_day_113 : decode cX11_day 113 = .ok (.getfield 33, 3) := by decide +kernel
theorem dX11_day_116 : decode cX11_day 116 = .ok (.iload_n 1, 1) := by decide +kernel
theorem dX11_day_117 : decode cX11_day 117 = .ok (.iaload, 1) := by decide +kernel
theorem dX11_day_118 : decode cX11_day 118 = .ok (.iconst 2, 1) := by decide +kernel
theorem dX11_day_119 : decode cX11_day 119 = .ok (.if_icmp .ne 10, 3) := by decide +kernel
theorem dX11_day_122 : decode cX11_day 122 = .ok (.iload 4, 2) := by decide +kernel
theorem dX11_day_124 : decode cX11_day 124 = .ok (.iconst 2, 1) := by decide +kernel
theorem dX11_day_125 : decode cX11_day 125 = .ok (.idiv, 1) := by decide +kernel
theorem dX11_day_126 : decode cX11_day 126 = .ok (.goto 5, 3) := by decide +kernel
theorem dX11_day_129 : decode cX11_day 129 = .ok (.iload 4, 2) := by decide +kernel
theorem dX11_day_131 : decode cX11_day 131 = .ok (.iadd, 1) := by decide +kernel
theorem dX11_day_132 : decode cX11_day 132 = .ok (.iastore, 1) := by decide +kernel
theorem dX11_day_133 : decode cX11_day 133 = .ok (.iinc 3 1, 3) := by decide +kernel
theorem dX11_day_136 : decode cX11_day 136 = .ok (.goto (-58), 3) := by decide +kernel
theorem dX11_day_139 : decode cX11_day 139 = .ok (.iinc 2 1, 3) := by decide +kernel
theorem dX11_day_142 : decode cX11_day 142 = .ok (.goto (-130), 3) := by decide +kernel
theorem dX11_day_145 : decode cX11_day 145 = .ok (.aload_n 0, 1) := by decide +kernel
theorem dX11_day_146 : decode cX11_day 146 = .ok (.getfield 7, 3) := by decide +kernel
theorem dX11_day_149 : decode cX11_day 149 = .ok (.iconst 1, 1) := by decide +kernel
theorem dX11_day_150 : decode cX11_day 150 = .ok (.dup2, 1) := by decide +kernel
theorem dX11_day_151 : decode cX11_day 151 = .ok (.iaload, 1) := by decide +kernel
theorem dX11_day_152 : decode cX11_day 152 = .ok (.aload_n 0, 1) := by decide +kernel
theorem dX11_day_153 : decode cX11_day 153 = .ok (.getfield 150, 3) := by decide +kernel
theorem dX11_day_156 : decode cX11_day 156 = .ok (.isub, 1) := by decide +kernel
theorem dX11_day_157 : decode cX11_day 157 = .ok (.iastore, 1) := by decide +kernel
theorem dX11_day_158 : decode cX11_day 158 = .ok (.aload_n 0, 1) := by decide +kernel
theorem dX11_day_159 : decode cX11_day 159 = .ok (.getfield 7, 3) := by decide +kernel
theorem dX11_day_162 : decode cX11_day 162 = .ok (.iconst 2, 1) := by decide +kernel
theorem dX11_day_163 : decode cX11_day 163 = .ok (.dup2, 1) := by decide +kernel
theorem dX11_day_164 : decode cX11_day 164 = .ok (.iaload, 1) := by decide +kernel
theorem dX11_day_165 : decode cX11_day 165 = .ok (.aload_n 0, 1) := by decide +kernel
theorem dX11_day_166 : decode cX11_day 166 = .ok (.getfield 150, 3) := by decide +kernel
theorem dX11_day_169 : decode cX11_day 169 = .ok (.isub, 1) := by decide +kernel
theorem dX11_day_170 : decode cX11_day 170 = .ok (.iastore, 1) := by decide +kernel
theorem dX11_day_171 : decode cX11_day 171 = .ok (.iinc 1 1, 3) := by decide +kernel
theorem dX11_day_174 : decode cX11_day 174 = .ok (.goto (-172), 3) := by decide +kernel
theorem dX11_day_177 : decode cX11_day 177 = .ok (.aload_n 0, 1) := by decide +kernel
theorem dX11_day_178 : decode cX11_day 178 = .ok (.getfield 7, 3) := by decide +kernel
theorem dX11_day_181 : decode cX11_day 181 = .ok (.iconst 0, 1) := by decide +kernel
theorem dX11_day_182 : decode cX11_day 182 = .ok (.dup2, 1) := by decide +kernel
theorem dX11_day_183 : decode cX11_day 183 = .ok (.iaload, 1) := by decide +kernel
theorem dX11_day_184 : decode cX11_day 184 = .ok (.iconst 1, 1) := by decide +kernel
theorem dX11_day_185 : decode cX11_day 185 = .ok (.iadd, 1) := by decide +kernel
theorem dX11_day_186 : decode cX11_day 186 = .ok (.iastore, 1) := by decide +kernel
theorem dX11_day_187 : decode cX11_day 187 = .ok (.bipush 39, 2) := by decide +kernel
theorem dX11_day_189 : decode cX11_day 189 = .ok (.istore_n 1, 1) := by decide +kernel
theorem dX11_day_190 : decode cX11_day 190 = .ok (.iload_n 1, 1) := by decide +kernel
theorem dX11_day_191 : decode cX11_day 191 = .ok (.bipush 87, 2) := by decide +kernel
theorem dX11_day_193 : decode cX11_day 193 = .ok (.if_icmp .ge 16, 3) := by decide +kernel
theorem dX11_day_196 : decode cX11_day 196 = .ok (.aload_n 0, 1) := by decide +kernel
theorem dX11_day_197 : decode cX11_day 197 = .ok (.getfield 7, 3) := by decide +kernel
theorem dX11_day_200 : decode cX11_day 200 = .ok (.iload_n 1, 1) := by decide +kernel
theorem dX11_day_201 : decode cX11_day 201 = .ok (.iconst (-1), 1) := by decide +kernel
theorem dX11_day_202 : decode cX11_day 202 = .ok (.iastore, 1) := by decide +kernel
theorem dX11_day_203 : decode cX11_day 203 = .ok (.iinc 1 1, 3) := by decide +kernel
theorem dX11_day_206 : decode cX11_day 206 = .ok (.goto (-16), 3) := by decide +kernel
theorem dX11_day_209 : decode cX11_day 209 = .ok (.return_, 1) := by decide +kernel
theorem dX11_days_0 : decode cX11_days 0 = .ok (.iload_n 1, 1) := by decide +kernel
theorem dX11_days_1 : decode cX11_days 1 = .ok (.i2l, 1) := by decide +kernel
theorem dX11_days_2 : decode cX11_days 2 = .ok (.lconst 1, 1) := by decide +kernel
theorem dX11_days_3 : decode cX11_days 3 = .ok (.ldc2_w 194, 3) := by decide +kernel
theorem dX11_days_6 : decode cX11_days 6 = .ok (.invokestatic 80, 3) := by decide +kernel
theorem dX11_days_9 : decode cX11_days 9 = .ok (.ifCond .ne 6, 3) := by decide +kernel
theorem dX11_days_12 : decode cX11_days 12 = .ok (.bipush (-3), 2) := by decide +kernel
theorem dX11_days_14 : decode cX11_days 14 = .ok (.ireturn, 1) := by decide +kernel
theorem dX11_days_15 : decode cX11_days 15 = .ok (.iconst 0, 1) := by decide +kernel
theorem dX11_days_16 : decode cX11_days 16 = .ok (.istore_n 2, 1) := by decide +kernel
theorem dX11_days_17 : decode cX11_days 17 = .ok (.iload_n 2, 1) := by decide +kernel
theorem dX11_days_18 : decode cX11_days 18 = .ok (.iload_n 1, 1) := by decide +kernel
theorem dX11_days_19 : decode cX11_days 19 = .ok (.if_icmp .ge 13, 3) := by decide +kernel
theorem dX11_days_22 : decode cX11_days 22 = .ok (.aload_n 0, 1) := by decide +kernel
theorem dX11_days_23 : decode cX11_days 23 = .ok (.invokevirtual 196, 3) := by decide +kernel
theorem dX11_days_26 : decode cX11_days 26 = .ok (.iinc 2 1, 3) := by decide +kernel
theorem dX11_days_29 : decode cX11_days 29 = .ok (.goto (-12), 3) := by decide +kernel
theorem dX11_days_32 : decode cX11_days 32 = .ok (.aload_n 0, 1) := by decide +kernel
theorem dX11_days_33 : decode cX11_days 33 = .ok (.getfield 7, 3) := by decide +kernel
theorem dX11_days_36 : decode cX11_days 36 = .ok (.iconst 0, 1) := by decide +kernel
theorem dX11_days_37 : decode cX11_days 37 = .ok (.iaload, 1) := by decide +kernel
theorem dX11_days_38 : decode cX11_days 38 = .ok (.ireturn, 1) := by decide +kernel
theorem dX11_person_0 : decode cX11_person 0 = .ok (.iload_n 1, 1) := by decide +kernel
theorem dX11_person_1 : decode cX11_person 1 = .ok (.invokestatic 164, 3) := by decide +kernel
theorem dX11_person_4 : decode cX11_person 4 = .ok (.ifCond .eq 11, 3) := by decide +kernel
theorem dX11_person_7 : decode cX11_person 7 = .ok (.aload_n 0, 1) := by decide +kernel
theorem dX11_person_8 : decode cX11_person 8 = .ok (.iload_n 2, 1) := by decide +kernel
theorem dX11_person_9 : decode cX11_person 9 = .ok (.invokevirtual 167, 3) := by decide +kernel
theorem dX11_person_12 : decode cX11_person 12 = .ok (.ifCond .ne 6, 3) := by decide +kernel
theorem dX11_person_15 : decode cX11_person 15 = .ok (.bipush (-2), 2) := by decide +kernel
theorem dX11_person_17 : decode cX11_person 17 = .ok (.ireturn, 1) := by decide +kernel
theorem dX11_person_18 : decode cX11_person 18 = .ok (.iload_n 3, 1) := by decide +kernel
theorem dX11_person_19 : decode cX11_person 19 = .ok (.ifCond .ne 19, 3) := by decide +kernel
theorem dX11_person_22 : decode cX11_person 22 = .ok (.aload_n 0, 1) := by decide +kernel
theorem dX11_person_23 : decode cX11_person 23 = .ok (.getfield 7, 3) := by decide +kernel
theorem dX11_person_26 : decode cX11_person 26 = .ok (.iconst 3, 1) := by decide +kernel
theorem dX11_person_27 : decode cX11_person 27 = .ok (.bipush 6, 2) := by decide +kernel
theorem dX11_person_29 : decode cX11_person 29 = .ok (.iload_n 1, 1) := by decide +kernel
theorem dX11_person_30 : decode cX11_person 30 = .ok (.imul, 1) := by decide +kernel
theorem dX11_person_31 : decode cX11_person 31 = .ok (.iadd, 1) := by decide +kernel
theorem dX11_person_32 : decode cX11_person 32 = .ok (.iload_n 2, 1) := by decide +kernel
theorem dX11_person_33 : decode cX11_person 33 = .ok (.iadd, 1) := by decide +kernel
theorem dX11_person_34 : decode cX11_person 34 = .ok (.iaload, 1) := by decide +kernel
theorem dX11_person_35 : decode cX11_person 35 = .ok (.goto 59, 3) := by decide +kernel
theorem dX11_person_38 : decode cX11_person 38 = .ok (.iload_n 3, 1) := by decide +kernel
theorem dX11_person_39 : decode cX11_person 39 = .ok (.iconst 1, 1) := by decide +kernel
theorem dX11_person_40 : decode cX11_person 40 = .ok (.if_icmp .ne 20, 3) := by decide +kernel
theorem dX11_person_43 : decode cX11_person 43 = .ok (.aload_n 0, 1) := by decide +kernel
theorem dX11_person_44 : decode cX11_person 44 = .ok (.getfield 7, 3) := by decide +kernel
theorem dX11_person_47 : decode cX11_person 47 = .ok (.bipush 15, 2) := by decide +kernel
theorem dX11_person_49 : decode cX11_person 49 = .ok (.bipush 6, 2) := by decide +kernel
theorem dX11_person_51 : decode cX11_person 51 = .ok (.iload_n 1, 1) := by decide +kernel
theorem dX11_person_52 : decode cX11_person 52 = .ok (.imul, 1) := by decide +kernel
theorem dX11_person_53 : decode cX11_person 53 = .ok (.iadd, 1) := by decide +kernel
theorem dX11_person_54 : decode cX11_person 54 = .ok (.iload_n 2, 1) := by decide +kernel
theorem dX11_person_55 : decode cX11_person 55 = .ok (.iadd, 1) := by decide +kernel
theorem dX11_person_56 : decode cX11_person 56 = .ok (.iaload, 1) := by decide +kernel
theorem dX11_person_57 : decode cX11_person 57 = .ok (.goto 37, 3) := by decide +kernel
theorem dX11_person_60 : decode cX11_person 60 = .ok (.iload_n 3, 1) := by decide +kernel
theorem dX11_person_61 : decode cX11_person 61 = .ok (.i2l, 1) := by decide +kernel
theorem dX11_person_62 : decode cX11_person 62 = .ok (.ldc2_w 199, 3) := by decide +kernel
theorem dX11_person_65 : decode cX11_person 65 = .ok (.bipush 9, 2) := by decide +kernel
theorem dX11_person_67 : decode cX11_person 67 = .ok (.aload_n 0, 1) := by decide +kernel
theorem dX11_person_68 : decode cX11_person 68 = .ok (.getfield 27, 3) := by decide +kernel
theorem dX11_person_71 : decode cX11_person 71 = .ok (.iadd, 1) := by decide +kernel
theorem dX11_person_72 : decode cX11_person 72 = .ok (.i2l, 1) := by decide +kernel
theorem dX11_person_73 : decode cX11_person 73 = .ok (.invokestatic 80, 3) := by decide +kernel
theorem dX11_person_76 : decode cX11_person 76 = .ok (.ifCond .eq 16, 3) := by decide +kernel
theorem dX11_person_79 : decode cX11_person 79 = .ok (.aload_n 0, 1) := by decide +kernel
theorem dX11_person_80 : decode cX11_person 80 = .ok (.iload_n 1, 1) := by decide +kernel
theorem dX11_person_81 : decode cX11_person 81 = .ok (.iload_n 2, 1) := by decide +kernel
theorem dX11_person_82 : decode cX11_person 82 = .ok (.iload_n 3, 1) := by decide +kernel
theorem dX11_person_83 : decode cX11_person 83 = .ok (.bipush 10, 2) := by decide +kernel
theorem dX11_person_85 : decode cX11_person 85 = .ok (.isub, 1) := by decide +kernel
theorem dX11_person_86 : decode cX11_person 86 = .ok (.invokevirtual 181, 3) := by decide +kernel
theorem dX11_person_89 : decode cX11_person 89 = .ok (.goto 5, 3) := by decide +kernel
theorem dX11_person_92 : decode cX11_person 92 = .ok (.bipush (-3), 2) := by decide +kernel
theorem dX11_person_94 : decode cX11_person 94 = .ok (.ireturn, 1) := by decide +kernel
theorem dX11_bread_0 : decode cX11_bread 0 = .ok (.iload_n 1, 1) := by decide +kernel
theorem dX11_bread_1 : decode cX11_bread 1 = .ok (.invokestatic 164, 3) := by decide +kernel
theorem dX11_bread_4 : decode cX11_bread 4 = .ok (.ifCond .eq 17, 3) := by decide +kernel
theorem dX11_bread_7 : decode cX11_bread 7 = .ok (.aload_n 0, 1) := by decide +kernel
theorem dX11_bread_8 : decode cX11_bread 8 = .ok (.getfield 7, 3) := by decide +kernel
theorem dX11_bread_11 : decode cX11_bread 11 = .ok (.iconst 1, 1) := by decide +kernel
theorem dX11_bread_12 : decode cX11_bread 12 = .ok (.iload_n 1, 1) := by decide +kernel
theorem dX11_bread_13 : decode cX11_bread 13 = .ok (.iadd, 1) := by decide +kernel
theorem dX11_bread_14 : decode cX11_bread 14 = .ok (.iaload, 1) := by decide +kernel
theorem dX11_bread_15 : decode cX11_bread 15 = .ok (.ldc 201, 2) := by decide +kernel
theorem dX11_bread_17 : decode cX11_bread 17 = .ok (.iadd, 1) := by decide +kernel
theorem dX11_bread_18 : decode cX11_bread 18 = .ok (.goto 5, 3) := by decide +kernel
theorem dX11_bread_21 : decode cX11_bread 21 = .ok (.bipush (-2), 2) := by decide +kernel
theorem dX11_bread_23 : decode cX11_bread 23 = .ok (.ireturn, 1) := by decide +kernel
theorem dX11_breaches_0 : decode cX11_breaches 0 = .ok (.aload_n 0, 1) := by decide +kernel
theorem dX11_breaches_1 : decode cX11_breaches 1 = .ok (.iload_n 1, 1) := by decide +kernel
theorem dX11_breaches_2 : decode cX11_breaches 2 = .ok (.invokevirtual 167, 3) := by decide +kernel
theorem dX11_breaches_5 : decode cX11_breaches 5 = .ok (.ifCond .ne 6, 3) := by decide +kernel
theorem dX11_breaches_8 : decode cX11_breaches 8 = .ok (.bipush (-2), 2) := by decide +kernel
theorem dX11_breaches_10 : decode cX11_breaches 10 = .ok (.ireturn, 1) := by decide +kernel
theorem dX11_breaches_11 : decode cX11_breaches 11 = .ok (.iconst 0, 1) := by decide +kernel
theorem dX11_breaches_12 : decode cX11_breaches 12 = .ok (.istore_n 2, 1) := by decide +kernel
theorem dX11_breaches_13 : decode cX11_breaches 13 = .ok (.iconst 0, 1) := by decide +kernel
theorem dX11_breaches_14 : decode cX11_breaches 14 = .ok (.istore_n 3, 1) := by decide +kernel
theorem dX11_breaches_15 : decode cX11_breaches 15 = .ok (.iload_n 3, 1) := by decide +kernel
theorem dX11_breaches_16 : decode cX11_breaches 16 = .ok (.aload_n 0, 1) := by decide +kernel
theorem dX11_breaches_17 : decode cX11_breaches 17 = .ok (.getfield 27, 3) := by decide +kernel
theorem dX11_breaches_20 : decode cX11_breaches 20 = .ok (.if_icmp .ge 28, 3) := by decide +kernel
theorem dX11_breaches_23 : decode cX11_breaches 23 = .ok (.iload_n 2, 1) := by decide +kernel
theorem dX11_breaches_24 : decode cX11_breaches 24 = .ok (.aload_n 0, 1) := by decide +kernel
theorem dX11_breaches_25 : decode cX11_breaches 25 = .ok (.iload_n 1, 1) := by decide +kernel
theorem dX11_breaches_26 : decode cX11_breaches 26 = .ok (.iload_n 3, 1) := by decide +kernel
theorem dX11_breaches_27 : decode cX11_breaches 27 = .ok (.invokevirtual 184, 3) := by decide +kernel
theorem dX11_breaches_30 : decode cX11_breaches 30 = .ok (.ifCond .eq 9, 3) := by decide +kernel
theorem dX11_breaches_33 : decode cX11_breaches 33 = .ok (.iconst 1, 1) := by decide +kernel
theorem dX11_breaches_34 : decode cX11_breaches 34 = .ok (.iload_n 3, 1) := by decide +kernel
theorem dX11_breaches_35 : decode cX11_breaches 35 = .ok (.ishl, 1) := by decide +kernel
theorem dX11_breaches_36 : decode cX11_breaches 36 = .ok (.goto 4, 3) := by decide +kernel
theorem dX11_breaches_39 : decode cX11_breaches 39 = .ok (.iconst 0, 1) := by decide +kernel
theorem dX11_breaches_40 : decode cX11_breaches 40 = .ok (.ior, 1) := by decide +kernel
theorem dX11_breaches_41 : decode cX11_breaches 41 = .ok (.istore_n 2, 1) := by decide +kernel
theorem dX11_breaches_42 : decode cX11_breaches 42 = .ok (.iinc 3 1, 3) := by decide +kernel
theorem dX11_breaches_45 : decode cX11_breaches 45 = .ok (.goto (-30), 3) := by decide +kernel
theorem dX11_breaches_48 : decode cX11_breaches 48 = .ok (.iload_n 2, 1) := by decide +kernel
theorem dX11_breaches_49 : decode cX11_breaches 49 = .ok (.ireturn, 1) := by decide +kernel
theorem dX11_as_0 : decode cX11_as 0 = .ok (.aload_n 0, 1) := by decide +kernel
theorem dX11_as_1 : decode cX11_as 1 = .ok (.iload_n 1, 1) := by decide +kernel
theorem dX11_as_2 : decode cX11_as 2 = .ok (.invokevirtual 167, 3) := by decide +kernel
theorem dX11_as_5 : decode cX11_as 5 = .ok (.ifCond .ne 6, 3) := by decide +kernel
theorem dX11_as_8 : decode cX11_as 8 = .ok (.bipush (-2), 2) := by decide +kernel
theorem dX11_as_10 : decode cX11_as 10 = .ok (.ireturn, 1) := by decide +kernel
theorem dX11_as_11 : decode cX11_as 11 = .ok (.iload_n 2, 1) := by decide +kernel
theorem dX11_as_12 : decode cX11_as 12 = .ok (.i2l, 1) := by decide +kernel
theorem dX11_as_13 : decode cX11_as 13 = .ok (.lconst 0, 1) := by decide +kernel
theorem dX11_as_14 : decode cX11_as 14 = .ok (.ldc2_w 202, 3) := by decide +kernel
theorem dX11_as_17 : decode cX11_as 17 = .ok (.invokestatic 80, 3) := by decide +kernel
theorem dX11_as_20 : decode cX11_as 20 = .ok (.ifCond .ne 6, 3) := by decide +kernel
theorem dX11_as_23 : decode cX11_as 23 = .ok (.bipush (-3), 2) := by decide +kernel
theorem dX11_as_25 : decode cX11_as 25 = .ok (.ireturn, 1) := by decide +kernel
theorem dX11_as_26 : decode cX11_as 26 = .ok (.aload_n 0, 1) := by decide +kernel
theorem dX11_as_27 : decode cX11_as 27 = .ok (.getfield 33, 3) := by decide +kernel
theorem dX11_as_30 : decode cX11_as 30 = .ok (.iload_n 1, 1) := by decide +kernel
theorem dX11_as_31 : decode cX11_as 31 = .ok (.iaload, 1) := by decide +kernel
theorem dX11_as_32 : decode cX11_as 32 = .ok (.istore_n 3, 1) := by decide +kernel
theorem dX11_as_33 : decode cX11_as 33 = .ok (.iload_n 2, 1) := by decide +kernel
theorem dX11_as_34 : decode cX11_as 34 = .ok (.ifCond .eq 59, 3) := by decide +kernel
theorem dX11_as_37 : decode cX11_as 37 = .ok (.iload_n 2, 1) := by decide +kernel
theorem dX11_as_38 : decode cX11_as 38 = .ok (.iconst 1, 1) := by decide +kernel
theorem dX11_as_39 : decode cX11_as 39 = .ok (.if_icmp .ne 8, 3) := by decide +kernel
theorem dX11_as_42 : decode cX11_as 42 = .ok (.iload_n 3, 1) := by decide +kernel
theorem dX11_as_43 : decode cX11_as 43 = .ok (.iconst 3, 1) := by decide +kernel
theorem dX11_as_44 : decode cX11_as 44 = .ok (.if_icmp .lt 49, 3) := by decide +kernel
theorem dX11_as_47 : decode cX11_as 47 = .ok (.iload_n 2, 1) := by decide +kernel
theorem dX11_as_48 : decode cX11_as 48 = .ok (.iconst 2, 1) := by decide +kernel
theorem dX11_as_49 : decode cX11_as 49 = .ok (.if_icmp .eq 9, 3) := by decide +kernel
theorem dX11_as_52 : decode cX11_as 52 = .ok (.iload_n 2, 1) := by decide +kernel
theorem dX11_as_53 : decode cX11_as 53 = .ok (.bipush 6, 2) := by decide +kernel
theorem dX11_as_55 : decode cX11_as 55 = .ok (.if_icmp .ne 8, 3) := by decide +kernel
theorem dX11_as_58 : decode cX11_as 58 = .ok (.iload_n 3, 1) := by decide +kernel
theorem dX11_as_59 : decode cX11_as 59 = .ok (.iconst 3, 1) := by decide +kernel
theorem dX11_as_60 : decode cX11_as 60 = .ok (.if_icmp .eq 33, 3) := by decide +kernel
theorem dX11_as_63 : decode cX11_as 63 = .ok (.iload_n 2, 1) := by decide +kernel
theorem dX11_as_64 : decode cX11_as 64 = .ok (.iconst 3, 1) := by decide +kernel
theorem dX11_as_65 : decode cX11_as 65 = .ok (.if_icmp .ne 8, 3) := by decide +kernel
theorem dX11_as_68 : decode cX11_as 68 = .ok (.iload_n 3, 1) := by decide +kernel
theorem dX11_as_69 : decode cX11_as 69 = .ok (.iconst 2, 1) := by decide +kernel
theorem dX11_as_70 : decode cX11_as 70 = .ok (.if_icmp .lt 23, 3) := by decide +kernel
theorem dX11_as_73 : decode cX11_as 73 = .ok (.iload_n 2, 1) := by decide +kernel
theorem dX11_as_74 : decode cX11_as 74 = .ok (.iconst 4, 1) := by decide +kernel
theorem dX11_as_75 : decode cX11_as 75 = .ok (.if_icmp .ne 8, 3) := by decide +kernel
theorem dX11_as_78 : decode cX11_as 78 = .ok (.iload_n 3, 1) := by decide +kernel
theorem dX11_as_79 : decode cX11_as 79 = .ok (.iconst 1, 1) := by decide +kernel
theorem dX11_as_80 : decode cX11_as 80 = .ok (.if_icmp .eq 13, 3) := by decide +kernel
theorem dX11_as_83 : decode cX11_as 83 = .ok (.iload_n 2, 1) := by decide +kernel
theorem dX11_as_84 : decode cX11_as 84 = .ok (.iconst 5, 1) := by decide +kernel
theorem dX11_as_85 : decode cX11_as 85 = .ok (.if_icmp .ne 12, 3) := by decide +kernel
theorem dX11_as_88 : decode cX11_as 88 = .ok (.iload_n 3, 1) := by decide +kernel
theorem dX11_as_89 : decode cX11_as 89 = .ok (.iconst 2, 1) := by decide +kernel
theorem dX11_as_90 : decode cX11_as 90 = .ok (.if_icmp .ne 7, 3) := by decide +kernel
theorem dX11_as_93 : decode cX11_as 93 = .ok (.iconst 1, 1) := by decide +kernel
theorem dX11_as_94 : decode cX11_as 94 = .ok (.goto 4, 3) := by decide +kernel
theorem dX11_as_97 : decode cX11_as 97 = .ok (.iconst 0, 1) := by decide +kernel
theorem dX11_as_98 : decode cX11_as 98 = .ok (.istore 4, 2) := by decide +kernel
theorem dX11_as_100 : decode cX11_as 100 = .ok (.iload 4, 2) := by decide +kernel
theorem dX11_as_102 : decode cX11_as 102 = .ok (.ifCond .eq 24, 3) := by decide +kernel
theorem dX11_as_105 : decode cX11_as 105 = .ok (.aload_n 0, 1) := by decide +kernel
theorem dX11_as_106 : decode cX11_as 106 = .ok (.getfield 7, 3) := by decide +kernel
theorem dX11_as_109 : decode cX11_as 109 = .ok (.iconst 3, 1) := by decide +kernel
theorem dX11_as_110 : decode cX11_as 110 = .ok (.iload_n 1, 1) := by decide +kernel
theorem dX11_as_111 : decode cX11_as 111 = .ok (.iadd, 1) := by decide +kernel
theorem dX11_as_112 : decode cX11_as 112 = .ok (.iaload, 1) := by decide +kernel
theorem dX11_as_113 : decode cX11_as 113 = .ok (.aload_n 0, 1) := by decide +kernel
theorem dX11_as_114 : decode cX11_as 114 = .ok (.getfield 7, 3) := by decide +kernel
theorem dX11_as_117 : decode cX11_as 117 = .ok (.bipush 9, 2) := by decide +kernel
theorem dX11_as_119 : decode cX11_as 119 = .ok (.iload_n 1, 1) := by decide +kernel
theorem dX11_as_120 : decode cX11_as 120 = .ok (.iadd, 1) := by decide +kernel
theorem dX11_as_121 : decode cX11_as 121 = .ok (.iaload, 1) := by decide +kernel
theorem dX11_as_122 : decode cX11_as 122 = .ok (.iadd, 1) := by decide +kernel
theorem dX11_as_123 : decode cX11_as 123 = .ok (.goto 5, 3) := by decide +kernel
theorem dX11_as_126 : decode cX11_as 126 = .ok (.bipush (-4), 2) := by decide +kernel
theorem dX11_as_128 : decode cX11_as 128 = .ok (.ireturn, 1) := by decide +kernel
theorem dX11_fits_0 : decode cX11_fits 0 = .ok (.iload_n 1, 1) := by decide +kernel
theorem dX11_fits_1 : decode cX11_fits 1 = .ok (.aload_n 0, 1) := by decide +kernel
theorem dX11_fits_2 : decode cX11_fits 2 = .ok (.getfield 27, 3) := by decide +kernel
theorem dX11_fits_5 : decode cX11_fits 5 = .ok (.idiv, 1) := by decide +kernel
theorem dX11_fits_6 : decode cX11_fits 6 = .ok (.istore 5, 2) := by decide +kernel
theorem dX11_fits_8 : decode cX11_fits 8 = .ok (.iload_n 1, 1) := by decide +kernel
theorem dX11_fits_9 : decode cX11_fits 9 = .ok (.aload_n 0, 1) := by decide +kernel
theorem dX11_fits_10 : decode cX11_fits 10 = .ok (.getfield 27, 3) := by decide +kernel
theorem dX11_fits_13 : decode cX11_fits 13 = .ok (.irem, 1) := by decide +kernel
theorem dX11_fits_14 : decode cX11_fits 14 = .ok (.istore 6, 2) := by decide +kernel
theorem dX11_fits_16 : decode cX11_fits 16 = .ok (.aload_n 0, 1) := by decide +kernel
theorem dX11_fits_17 : decode cX11_fits 17 = .ok (.getfield 30, 3) := by decide +kernel
theorem dX11_fits_20 : decode cX11_fits 20 = .ok (.iconst 4, 1) := by decide +kernel
theorem dX11_fits_21 : decode cX11_fits 21 = .ok (.iload_n 3, 1) := by decide +kernel
theorem dX11_fits_22 : decode cX11_fits 22 = .ok (.imul, 1) := by decide +kernel
theorem dX11_fits_23 : decode cX11_fits 23 = .ok (.iaload, 1) := by decide +kernel
theorem dX11_fits_24 : decode cX11_fits 24 = .ok (.aload_n 0, 1) := by decide +kernel
theorem dX11_fits_25 : decode cX11_fits 25 = .ok (.getfield 30, 3) := by decide +kernel
theorem dX11_fits_28 : decode cX11_fits 28 = .ok (.iconst 4, 1) := by decide +kernel
theorem dX11_fits_29 : decode cX11_fits 29 = .ok (.iload 4, 2) := by decide +kernel
theorem dX11_fits_31 : decode cX11_fits 31 = .ok (.imul, 1) := by decide +kernel
theorem dX11_fits_32 : decode cX11_fits 32 = .ok (.iaload, 1) := by decide +kernel
theorem dX11_fits_33 : decode cX11_fits 33 = .ok (.if_icmp .ne 7, 3) := by decide +kernel
theorem dX11_fits_36 : decode cX11_fits 36 = .ok (.iconst 1, 1) := by decide +kernel
theorem dX11_fits_37 : decode cX11_fits 37 = .ok (.goto 4, 3) := by decide +kernel
theorem dX11_fits_40 : decode cX11_fits 40 = .ok (.iconst 0, 1) := by decide +kernel
theorem dX11_fits_41 : decode cX11_fits 41 = .ok (.istore 7, 2) := by decide +kernel
theorem dX11_fits_43 : decode cX11_fits 43 = .ok (.aload_n 0, 1) := by decide +kernel
theorem dX11_fits_44 : decode cX11_fits 44 = .ok (.iconst 0, 1) := by decide +kernel
theorem dX11_fits_45 : decode cX11_fits 45 = .ok (.iload 5, 2) := by decide +kernel
theorem dX11_fits_47 : decode cX11_fits 47 = .ok (.iload 6, 2) := by decide +kernel
theorem dX11_fits_49 : decode cX11_fits 49 = .ok (.iload_n 3, 1) := by decide +kernel
theorem dX11_fits_50 : decode cX11_fits 50 = .ok (.invokevirtual 177, 3) := by decide +kernel
theorem dX11_fits_53 : decode cX11_fits 53 = .ok (.ifCond .eq 46, 3) := by decide +kernel
theorem dX11_fits_56 : decode cX11_fits 56 = .ok (.aload_n 0, 1) := by decide +kernel
theorem dX11_fits_57 : decode cX11_fits 57 = .ok (.iconst 1, 1) := by decide +kernel
theorem dX11_fits_58 : decode cX11_fits 58 = .ok (.iload 5, 2) := by decide +kernel
theorem dX11_fits_60 : decode cX11_fits 60 = .ok (.iload 6, 2) := by decide +kernel
theorem dX11_fits_62 : decode cX11_fits 62 = .ok (.iload 4, 2) := by decide +kernel
theorem dX11_fits_64 : decode cX11_fits 64 = .ok (.invokevirtual 177, 3) := by decide +kernel
theorem dX11_fits_67 : decode cX11_fits 67 = .ok (.ifCond .eq 32, 3) := by decide +kernel
theorem dX11_fits_70 : decode cX11_fits 70 = .ok (.aload_n 0, 1) := by decide +kernel
theorem dX11_fits_71 : decode cX11_fits 71 = .ok (.getfield 33, 3) := by decide +kernel
theorem dX11_fits_74 : decode cX11_fits 74 = .ok (.iload 5, 2) := by decide +kernel
theorem dX11_fits_76 : decode cX11_fits 76 = .ok (.iaload, 1) := by decide +kernel
theorem dX11_fits_77 : decode cX11_fits 77 = .ok (.iconst 3, 1) := by decide +kernel
theorem dX11_fits_78 : decode cX11_fits 78 = .ok (.if_icmp .eq 17, 3) := by decide +kernel
theorem dX11_fits_81 : decode cX11_fits 81 = .ok (.iload 7, 2) := by decide +kernel
theorem dX11_fits_83 : decode cX11_fits 83 = .ok (.iload_n 2, 1) := by decide +kernel
theorem dX11_fits_84 : decode cX11_fits 84 = .ok (.ifCond .ne 7, 3) := by decide +kernel
theorem dX11_fits_87 : decode cX11_fits 87 = .ok (.iconst 1, 1) := by decide +kernel
theorem dX11_fits_88 : decode cX11_fits 88 = .ok (.goto 4, 3) := by decide +kernel
theorem dX11_fits_91 : decode cX11_fits 91 = .ok (.iconst 0, 1) := by decide +kernel
theorem dX11_fits_92 : decode cX11_fits 92 = .ok (.if_icmp .ne 7, 3) := by decide +kernel
theorem dX11_fits_95 : decode cX11_fits 95 = .ok (.iconst 1, 1) := by decide +kernel
theorem dX11_fits_96 : decode cX11_fits 96 = .ok (.goto 4, 3) := by decide +kernel
theorem dX11_fits_99 : decode cX11_fits 99 = .ok (.iconst 0, 1) := by decide +kernel
theorem dX11_fits_100 : decode cX11_fits 100 = .ok (.ireturn, 1) := by decide +kernel
theorem dX11_breadOf_0 : decode cX11_breadOf 0 = .ok (.aload_n 0, 1) := by decide +kernel
theorem dX11_breadOf_1 : decode cX11_breadOf 1 = .ok (.getfield 30, 3) := by decide +kernel
theorem dX11_breadOf_4 : decode cX11_breadOf 4 = .ok (.iconst 4, 1) := by decide +kernel
theorem dX11_breadOf_5 : decode cX11_breadOf 5 = .ok (.iload_n 2, 1) := by decide +kernel
theorem dX11_breadOf_6 : decode cX11_breadOf 6 = .ok (.imul, 1) := by decide +kernel
theorem dX11_breadOf_7 : decode cX11_breadOf 7 = .ok (.iconst 1, 1) := by decide +kernel
theorem dX11_breadOf_8 : decode cX11_breadOf 8 = .ok (.iadd, 1) := by decide +kernel
theorem dX11_breadOf_9 : decode cX11_breadOf 9 = .ok (.iaload, 1) := by decide +kernel
theorem dX11_breadOf_10 : decode cX11_breadOf 10 = .ok (.istore 4, 2) := by decide +kernel
theorem dX11_breadOf_12 : decode cX11_breadOf 12 = .ok (.aload_n 0, 1) := by decide +kernel
theorem dX11_breadOf_13 : decode cX11_breadOf 13 = .ok (.getfield 30, 3) := by decide +kernel
theorem dX11_breadOf_16 : decode cX11_breadOf 16 = .ok (.iconst 4, 1) := by decide +kernel
theorem dX11_breadOf_17 : decode cX11_breadOf 17 = .ok (.iload_n 3, 1) := by decide +kernel
theorem dX11_breadOf_18 : decode cX11_breadOf 18 = .ok (.imul, 1) := by decide +kernel
theorem dX11_breadOf_19 : decode cX11_breadOf 19 = .ok (.iconst 2, 1) := by decide +kernel
theorem dX11_breadOf_20 : decode cX11_breadOf 20 = .ok (.iadd, 1) := by decide +kernel
theorem dX11_breadOf_21 : decode cX11_breadOf 21 = .ok (.iaload, 1) := by decide +kernel
theorem dX11_breadOf_22 : decode cX11_breadOf 22 = .ok (.istore 5, 2) := by decide +kernel
theorem dX11_breadOf_24 : decode cX11_breadOf 24 = .ok (.aload_n 0, 1) := by decide +kernel
theorem dX11_breadOf_25 : decode cX11_breadOf 25 = .ok (.getfield 33, 3) := by decide +kernel
theorem dX11_breadOf_28 : decode cX11_breadOf 28 = .ok (.iload_n 1, 1) := by decide +kernel
theorem dX11_breadOf_29 : decode cX11_breadOf 29 = .ok (.aload_n 0, 1) := by decide +kernel
theorem dX11_breadOf_30 : decode cX11_breadOf 30 = .ok (.getfield 27, 3) := by decide +kernel
theorem dX11_breadOf_33 : decode cX11_breadOf 33 = .ok (.idiv, 1) := by decide +kernel
theorem dX11_breadOf_34 : decode cX11_breadOf 34 = .ok (.iaload, 1) := by decide +kernel
theorem dX11_breadOf_35 : decode cX11_breadOf 35 = .ok (.iconst 2, 1) := by decide +kernel
theorem dX11_breadOf_36 : decode cX11_breadOf 36 = .ok (.if_icmp .ne 15, 3) := by decide +kernel
theorem dX11_breadOf_39 : decode cX11_breadOf 39 = .ok (.iload 4, 2) := by decide +kernel
theorem dX11_breadOf_41 : decode cX11_breadOf 41 = .ok (.iconst 2, 1) := by decide +kernel
theorem dX11_breadOf_42 : decode cX11_breadOf 42 = .ok (.idiv, 1) := by decide +kernel
theorem dX11_breadOf_43 : decode cX11_breadOf 43 = .ok (.iload 5, 2) := by decide +kernel
theorem dX11_breadOf_45 : decode cX11_breadOf 45 = .ok (.iconst 2, 1) := by decide +kernel
theorem dX11_breadOf_46 : decode cX11_breadOf 46 = .ok (.idiv, 1) := by decide +kernel
theorem dX11_breadOf_47 : decode cX11_breadOf 47 = .ok (.iadd, 1) := by decide +kernel
theorem dX11_breadOf_48 : decode cX11_breadOf 48 = .ok (.goto 8, 3) := by decide +kernel
theorem dX11_breadOf_51 : decode cX11_breadOf 51 = .ok (.iload 4, 2) := by decide +kernel
theorem dX11_breadOf_53 : decode cX11_breadOf 53 = .ok (.iload 5, 2) := by decide +kernel
theorem dX11_breadOf_55 : decode cX11_breadOf 55 = .ok (.iadd, 1) := by decide +kernel
theorem dX11_breadOf_56 : decode cX11_breadOf 56 = .ok (.ireturn, 1) := by decide +kernel
theorem dX11_worthBy_0 : decode cX11_worthBy 0 = .ok (.aload_n 0, 1) := by decide +kernel
theorem dX11_worthBy_1 : decode cX11_worthBy 1 = .ok (.iload_n 1, 1) := by decide +kernel
theorem dX11_worthBy_2 : decode cX11_worthBy 2 = .ok (.iload_n 2, 1) := by decide +kernel
theorem dX11_worthBy_3 : decode cX11_worthBy 3 = .ok (.iload 4, 2) := by decide +kernel
theorem dX11_worthBy_5 : decode cX11_worthBy 5 = .ok (.iload 5, 2) := by decide +kernel
theorem dX11_worthBy_7 : decode cX11_worthBy 7 = .ok (.invokevirtual 204, 3) := by decide +kernel
theorem dX11_worthBy_10 : decode cX11_worthBy 10 = .ok (.ifCond .ne 5, 3) := by decide +kernel
theorem dX11_worthBy_13 : decode cX11_worthBy 13 = .ok (.iconst (-1), 1) := by decide +kernel
theorem dX11_worthBy_14 : decode cX11_worthBy 14 = .ok (.ireturn, 1) := by decide +kernel
theorem dX11_worthBy_15 : decode cX11_worthBy 15 = .ok (.iload_n 3, 1) := by decide +kernel
theorem dX11_worthBy_16 : decode cX11_worthBy 16 = .ok (.aload_n 0, 1) := by decide +kernel
theorem dX11_worthBy_17 : decode cX11_worthBy 17 = .ok (.iload_n 1, 1) := by decide +kernel
theorem dX11_worthBy_18 : decode cX11_worthBy 18 = .ok (.iload 4, 2) := by decide +kernel
theorem dX11_worthBy_20 : decode cX11_worthBy 20 = .ok (.iload 5, 2) := by decide +kernel
theorem dX11_worthBy_22 : decode cX11_worthBy 22 = .ok (.invokevirtual 207, 3) := by decide +kernel
theorem dX11_worthBy_25 : decode cX11_worthBy 25 = .ok (.isub, 1) := by decide +kernel
theorem dX11_worthBy_26 : decode cX11_worthBy 26 = .ok (.istore 6, 2) := by decide +kernel
theorem dX11_worthBy_28 : decode cX11_worthBy 28 = .ok (.aload_n 0, 1) := by decide +kernel
theorem dX11_worthBy_29 : decode cX11_worthBy 29 = .ok (.getfield 45, 3) := by decide +kernel
theorem dX11_worthBy_32 : decode cX11_worthBy 32 = .ok (.sipush 201, 3) := by decide +kernel
theorem dX11_worthBy_35 : decode cX11_worthBy 35 = .ok (.iload_n 1, 1) := by decide +kernel
theorem dX11_worthBy_36 : decode cX11_worthBy 36 = .ok (.iconst 1, 1) := by decide +kernel
theorem dX11_worthBy_37 : decode cX11_worthBy 37 = .ok (.iadd, 1) := by decide +kernel
theorem dX11_worthBy_38 : decode cX11_worthBy 38 = .ok (.imul, 1) := by decide +kernel
theorem dX11_worthBy_39 : decode cX11_worthBy 39 = .ok (.iload 6, 2) := by decide +kernel
theorem dX11_worthBy_41 : decode cX11_worthBy 41 = .ok (.ifCond .le 8, 3) := by decide +kernel
theorem dX11_worthBy_44 : decode cX11_worthBy 44 = .ok (.iload 6, 2) := by decide +kernel
theorem dX11_worthBy_46 : decode cX11_worthBy 46 = .ok (.goto 4, 3) := by decide +kernel
theorem dX11_worthBy_49 : decode cX11_worthBy 49 = .ok (.iconst 0, 1) := by decide +kernel
theorem dX11_worthBy_50 : decode cX11_worthBy 50 = .ok (.iadd, 1) := by decide +kernel
theorem dX11_worthBy_51 : decode cX11_worthBy 51 = .ok (.iaload, 1) := by decide +kernel
theorem dX11_worthBy_52 : decode cX11_worthBy 52 = .ok (.istore 7, 2) := by decide +kernel
theorem dX11_worthBy_54 : decode cX11_worthBy 54 = .ok (.iload 7, 2) := by decide +kernel
theorem dX11_worthBy_56 : decode cX11_worthBy 56 = .ok (.iconst (-1), 1) := by decide +kernel
theorem dX11_worthBy_57 : decode cX11_worthBy 57 = .ok (.if_icmp .ne 7, 3) := by decide +kernel
theorem dX11_worthBy_60 : decode cX11_worthBy 60 = .ok (.iconst (-1), 1) := by decide +kernel
theorem dX11_worthBy_61 : decode cX11_worthBy 61 = .ok (.goto 29, 3) := by decide +kernel
theorem dX11_worthBy_64 : decode cX11_worthBy 64 = .ok (.iload 7, 2) := by decide +kernel
theorem dX11_worthBy_66 : decode cX11_worthBy 66 = .ok (.aload_n 0, 1) := by decide +kernel
theorem dX11_worthBy_67 : decode cX11_worthBy 67 = .ok (.getfield 30, 3) := by decide +kernel
theorem dX11_worthBy_70 : decode cX11_worthBy 70 = .ok (.iconst 4, 1) := by decide +kernel
theorem dX11_worthBy_71 : decode cX11_worthBy 71 = .ok (.iload 4, 2) := by decide +kernel
theorem dX11_worthBy_73 : decode cX11_worthBy 73 = .ok (.imul, 1) := by decide +kernel
theorem dX11_worthBy_74 : decode cX11_worthBy 74 = .ok (.iconst 3, 1) := by decide +kernel
theorem dX11_worthBy_75 : decode cX11_worthBy 75 = .ok (.iadd, 1) := by decide +kernel
theorem dX11_worthBy_76 : decode cX11_worthBy 76 = .ok (.iaload, 1) := by decide +kernel
theorem dX11_worthBy_77 : decode cX11_worthBy 77 = .ok (.iadd, 1) := by decide +kernel
theorem dX11_worthBy_78 : decode cX11_worthBy 78 = .ok (.aload_n 0, 1) := by decide +kernel
theorem dX11_worthBy_79 : decode cX11_worthBy 79 = .ok (.getfield 30, 3) := by decide +kernel
theorem dX11_worthBy_82 : decode cX11_worthBy 82 = .ok (.iconst 4, 1) := by decide +kernel
theorem dX11_worthBy_83 : decode cX11_worthBy 83 = .ok (.iload 5, 2) := by decide +kernel
theorem dX11_worthBy_85 : decode cX11_worthBy 85 = .ok (.imul, 1) := by decide +kernel
theorem dX11_worthBy_86 : decode cX11_worthBy 86 = .ok (.iconst 3, 1) := by decide +kernel
theorem dX11_worthBy_87 : decode cX11_worthBy 87 = .ok (.iadd, 1) := by decide +kernel
theorem dX11_worthBy_88 : decode cX11_worthBy 88 = .ok (.iaload, 1) := by decide +kernel
theorem dX11_worthBy_89 : decode cX11_worthBy 89 = .ok (.iadd, 1) := by decide +kernel
theorem dX11_worthBy_90 : decode cX11_worthBy 90 = .ok (.ireturn, 1) := by decide +kernel
theorem dX11_layWorths_0 : decode cX11_layWorths 0 = .ok (.aload_n 0, 1) := by decide +kernel
theorem dX11_layWorths_1 : decode cX11_layWorths 1 = .ok (.getfield 23, 3) := by decide +kernel
theorem dX11_layWorths_4 : decode cX11_layWorths 4 = .ok (.aload_n 0, 1) := by decide +kernel
theorem dX11_layWorths_5 : decode cX11_layWorths 5 = .ok (.getfield 27, 3) := by decide +kernel
theorem dX11_layWorths_8 : decode cX11_layWorths 8 = .ok (.imul, 1) := by decide +kernel
theorem dX11_layWorths_9 : decode cX11_layWorths 9 = .ok (.istore_n 3, 1) := by decide +kernel
theorem dX11_layWorths_10 : decode cX11_layWorths 10 = .ok (.iconst 0, 1) := by decide +kernel
theorem dX11_layWorths_11 : decode cX11_layWorths 11 = .ok (.istore 4, 2) := by decide +kernel
theorem dX11_layWorths_13 : decode cX11_layWorths 13 = .ok (.iload 4, 2) := by decide +kernel
theorem dX11_layWorths_15 : decode cX11_layWorths 15 = .ok (.iload_n 2, 1) := by decide +kernel
theorem dX11_layWorths_16 : decode cX11_layWorths 16 = .ok (.if_icmp .gt 32, 3) := by decide +kernel
theorem dX11_layWorths_19 : decode cX11_layWorths 19 = .ok (.aload_n 0, 1) := by decide +kernel
theorem dX11_layWorths_20 : decode cX11_layWorths 20 = .ok (.getfield 45, 3) := by decide +kernel
theorem dX11_layWorths_23 : decode cX11_layWorths 23 = .ok (.sipush 201, 3) := by decide +kernel
theorem dX11_layWorths_26 : decode cX11_layWorths 26 = .ok (.iload_n 3, 1) := by decide +kernel
theorem dX11_layWorths_27 : decode cX11_layWorths 27 = .ok (.imul, 1) := by decide +kernel
theorem dX11_layWorths_28 : decode cX11_layWorths 28 = .ok (.iload 4, 2) := by decide +kernel
theorem dX11_layWorths_30 : decode cX11_layWorths 30 = .ok (.iadd, 1) := by decide +kernel
theorem dX11_layWorths_31 : decode cX11_layWorths 31 = .ok (.iload 4, 2) := by decide +kernel
theorem dX11_layWorths_33 : decode cX11_layWorths 33 = .ok (.ifCond .ne 7, 3) := by decide +kernel
theorem dX11_layWorths_36 : decode cX11_layWorths 36 = .ok (.iconst 0, 1) := by decide +kernel
theorem dX11_layWorths_37 : decode cX11_layWorths 37 = .ok (.goto 4, 3) := by decide +kernel
theorem dX11_layWorths_40 : decode cX11_layWorths 40 = .ok (.iconst (-1), 1) := by decide +kernel
theorem dX11_layWorths_41 : decode cX11_layWorths 41 = .ok (.iastore, 1) := by decide +kernel
theorem dX11_layWorths_42 : decode cX11_layWorths 42 = .ok (.iinc 4 1, 3) := by decide +kernel
theorem dX11_layWorths_45 : decode cX11_layWorths 45 = .ok (.goto (-32), 3) := by decide +kernel
theorem dX11_layWorths_48 : decode cX11_layWorths 48 = .ok (.iload_n 3, 1) := by decide +kernel
theorem dX11_layWorths_49 : decode cX11_layWorths 49 = .ok (.iconst 1, 1) := by decide +kernel
theorem dX11_layWorths_50 : decode cX11_layWorths 50 = .ok (.isub, 1) := by decide +kernel
theorem dX11_layWorths_51 : decode cX11_layWorths 51 = .ok (.istore 4, 2) := by decide +kernel
theorem dX11_layWorths_53 : decode cX11_layWorths 53 = .ok (.iload 4, 2) := by decide +kernel
theorem dX11_layWorths_55 : decode cX11_layWorths 55 = .ok (.ifCond .lt 96, 3) := by decide +kernel
theorem dX11_layWorths_58 : decode cX11_layWorths 58 = .ok (.iconst 0, 1) := by decide +kernel
theorem dX11_layWorths_59 : decode cX11_layWorths 59 = .ok (.istore 5, 2) := by decide +kernel
theorem dX11_layWorths_61 : decode cX11_layWorths 61 = .ok (.iload 5, 2) := by decide +kernel
theorem dX11_layWorths_63 : decode cX11_layWorths 63 = .ok (.iload_n 2, 1) := by decide +kernel
theorem dX11_layWorths_64 : decode cX11_layWorths 64 = .ok (.if_icmp .gt 81, 3) := by decide +kernel
theorem dX11_layWorths_67 : decode cX11_layWorths 67 = .ok (.iconst (-1), 1) := by decide +kernel
theorem dX11_layWorths_68 : decode cX11_layWorths 68 = .ok (.istore 6, 2) := by decide +kernel
theorem dX11_layWorths_70 : decode cX11_layWorths 70 = .ok (.iconst 0, 1) := by decide +kernel
theorem dX11_layWorths_71 : decode cX11_layWorths 71 = .ok (.istore 7, 2) := by decide +kernel
theorem dX11_layWorths_73 : decode cX11_layWorths 73 = .ok (.iload 7, 2) := by decide +kernel
theorem dX11_layWorths_75 : decode cX11_layWorths 75 = .ok (.bipush 36, 2) := by decide +kernel
theorem dX11_layWorths_77 : decode cX11_layWorths 77 = .ok (.if_icmp .ge 46, 3) := by decide +kernel
theorem dX11_layWorths_80 : decode cX11_layWorths 80 = .ok (.aload_n 0, 1) := by decide +kernel
theorem dX11_layWorths_81 : decode cX11_layWorths 81 = .ok (.iload 4, 2) := by decide +kernel
theorem dX11_layWorths_83 : decode cX11_layWorths 83 = .ok (.iload_n 1, 1) := by decide +kernel
theorem dX11_layWorths_84 : decode cX11_layWorths 84 = .ok (.iload 5, 2) := by decide +kernel
theorem dX11_layWorths_86 : decode cX11_layWorths 86 = .ok (.iload 7, 2) := by decide +kernel
theorem dX11_layWorths_88 : decode cX11_layWorths 88 = .ok (.bipush 6, 2) := by decide +kernel
theorem dX11_layWorths_90 : decode cX11_layWorths 90 = .ok (.idiv, 1) := by decide +kernel
theorem dX11_layWorths_91 : decode cX11_layWorths 91 = .ok (.iload 7, 2) := by decide +kernel
theorem dX11_layWorths_93 : decode cX11_layWorths 93 = .ok (.bipush 6, 2) := by decide +kernel
theorem dX11_layWorths_95 : decode cX11_layWorths 95 = .ok (.irem, 1) := by decide +kernel
theorem dX11_layWorths_96 : decode cX11_layWorths 96 = .ok (.invokevirtual 210, 3) := by decide +kernel
theorem dX11_layWorths_99 : decode cX11_layWorths 99 = .ok (.istore 8, 2) := by decide +kernel
theorem dX11_layWorths_101 : decode cX11_layWorths 101 = .ok (.iload 8, 2) := by decide +kernel
theorem dX11_layWorths_103 : decode cX11_layWorths 103 = .ok (.iload 6, 2) := by decide +kernel
theorem dX11_layWorths_105 : decode cX11_layWorths 105 = .ok (.if_icmp .le 8, 3) := by decide +kernel
theorem dX11_layWorths_108 : decode cX11_layWorths 108 = .ok (.iload 8, 2) := by decide +kernel
theorem dX11_layWorths_110 : decode cX11_layWorths 110 = .ok (.goto 5, 3) := by decide +kernel
theorem dX11_layWorths_113 : decode cX11_layWorths 113 = .ok (.iload 6, 2) := by decide +kernel
theorem dX11_layWorths_115 : decode cX11_layWorths 115 = .ok (.istore 6, 2) := by decide +kernel
theorem dX11_layWorths_117 : decode cX11_layWorths 117 = .ok (.iinc 7 1, 3) := by decide +kernel
theorem dX11_layWorths_120 : decode cX11_layWorths 120 = .ok (.goto (-47), 3) := by decide +kernel
theorem dX11_layWorths_123 : decode cX11_layWorths 123 = .ok (.aload_n 0, 1) := by decide +kernel
theorem dX11_layWorths_124 : decode cX11_layWorths 124 = .ok (.getfield 45, 3) := by decide +kernel
theorem dX11_layWorths_127 : decode cX11_layWorths 127 = .ok (.sipush 201, 3) := by decide +kernel
theorem dX11_layWorths_130 : decode cX11_layWorths 130 = .ok (.iload 4, 2) := by decide +kernel
theorem dX11_layWorths_132 : decode cX11_layWorths 132 = .ok (.imul, 1) := by decide +kernel
theorem dX11_layWorths_133 : decode cX11_layWorths 133 = .ok (.iload 5, 2) := by decide +kernel
theorem dX11_layWorths_135 : decode cX11_layWorths 135 = .ok (.iadd, 1) := by decide +kernel
theorem dX11_layWorths_136 : decode cX11_layWorths 136 = .ok (.iload 6, 2) := by decide +kernel
theorem dX11_layWorths_138 : decode cX11_layWorths 138 = .ok (.iastore, 1) := by decide +kernel
theorem dX11_layWorths_139 : decode cX11_layWorths 139 = .ok (.iinc 5 1, 3) := by decide +kernel
theorem dX11_layWorths_142 : decode cX11_layWorths 142 = .ok (.goto (-81), 3) := by decide +kernel
theorem dX11_layWorths_145 : decode cX11_layWorths 145 = .ok (.iinc 4 (-1), 3) := by decide +kernel
theorem dX11_layWorths_148 : decode cX11_layWorths 148 = .ok (.goto (-95), 3) := by decide +kernel
theorem dX11_layWorths_151 : decode cX11_layWorths 151 = .ok (.return_, 1) := by decide +kernel
theorem dX11_choose_0 : decode cX11_choose 0 = .ok (.aload_n 0, 1) := by decide +kernel
theorem dX11_choose_1 : decode cX11_choose 1 = .ok (.iload_n 1, 1) := by decide +kernel
theorem dX11_choose_2 : decode cX11_choose 2 = .ok (.iload_n 2, 1) := by decide +kernel
theorem dX11_choose_3 : decode cX11_choose 3 = .ok (.invokevirtual 214, 3) := by decide +kernel
theorem dX11_choose_6 : decode cX11_choose 6 = .ok (.aload_n 0, 1) := by decide +kernel
theorem dX11_choose_7 : decode cX11_choose 7 = .ok (.getfield 45, 3) := by decide +kernel
theorem dX11_choose_10 : decode cX11_choose 10 = .ok (.iload_n 2, 1) := by decide +kernel
theorem dX11_choose_11 : decode cX11_choose 11 = .ok (.iaload, 1) := by decide +kernel
theorem dX11_choose_12 : decode cX11_choose 12 = .ok (.iconst (-1), 1) := by decide +kernel
theorem dX11_choose_13 : decode cX11_choose 13 = .ok (.if_icmp .ne 5, 3) := by decide +kernel
theorem dX11_choose_16 : decode cX11_choose 16 = .ok (.iconst 0, 1) := by decide +kernel
theorem dX11_choose_17 : decode cX11_choose 17 = .ok (.ireturn, 1) := by decide +kernel
theorem dX11_choose_18 : decode cX11_choose 18 = .ok (.iload_n 2, 1) := by decide +kernel
theorem dX11_choose_19 : decode cX11_choose 19 = .ok (.istore_n 3, 1) := by decide +kernel
theorem dX11_choose_20 : decode cX11_choose 20 = .ok (.aload_n 0, 1) := by decide +kernel
theorem dX11_choose_21 : decode cX11_choose 21 = .ok (.iconst 0, 1) := by decide +kernel
theorem dX11_choose_22 : decode cX11_choose 22 = .ok (.putfield 217, 3) := by decide +kernel
theorem dX11_choose_25 : decode cX11_choose 25 = .ok (.iconst 0, 1) := by decide +kernel
theorem dX11_choose_26 : decode cX11_choose 26 = .ok (.istore 4, 2) := by decide +kernel
theorem dX11_choose_28 : decode cX11_choose 28 = .ok (.iload 4, 2) := by decide +kernel
theorem dX11_choose_30 : decode cX11_choose 30 = .ok (.aload_n 0, 1) := by decide +kernel
theorem dX11_choose_31 : decode cX11_choose 31 = .ok (.getfield 23, 3) := by decide +kernel
theorem dX11_choose_34 : decode cX11_choose 34 = .ok (.aload_n 0, 1) := by decide +kernel
theorem dX11_choose_35 : decode cX11_choose 35 = .ok (.getfield 27, 3) := by decide +kernel
theorem dX11_choose_38 : decode cX11_choose 38 = .ok (.imul, 1) := by decide +kernel
theorem dX11_choose_39 : decode cX11_choose 39 = .ok (.if_icmp .ge 126, 3) := by decide +kernel
theorem dX11_choose_42 : decode cX11_choose 42 = .ok (.iconst 0, 1) := by decide +kernel
theorem dX11_choose_43 : decode cX11_choose 43 = .ok (.istore 5, 2) := by decide +kernel
theorem dX11_choose_45 : decode cX11_choose 45 = .ok (.aload_n 0, 1) := by decide +kernel
theorem dX11_choose_46 : decode cX11_choose 46 = .ok (.iload 4, 2) := by decide +kernel
theorem dX11_choose_48 : decode cX11_choose 48 = .ok (.iload_n 1, 1) := by decide +kernel
theorem dX11_choose_49 : decode cX11_choose 49 = .ok (.iload_n 3, 1) := by decide +kernel
theorem dX11_choose_50 : decode cX11_choose 50 = .ok (.iload 5, 2) := by decide +kernel
theorem dX11_choose_52 : decode cX11_choose 52 = .ok (.bipush 6, 2) := by decide +kernel
theorem dX11_choose_54 : decode cX11_choose 54 = .ok (.idiv, 1) := by decide +kernel
theorem dX11_choose_55 : decode cX11_choose 55 = .ok (.iload 5, 2) := by decide +kernel
theorem dX11_choose_57 : decode cX11_choose 57 = .ok (.bipush 6, 2) := by decide +kernel
theorem dX11_choose_59 : decode cX11_choose 59 = .ok (.irem, 1) := by decide +kernel
theorem dX11_choose_60 : decode cX11_choose 60 = .ok (.invokevirtual 210, 3) := by decide +kernel
theorem dX11_choose_63 : decode cX11_choose 63 = .ok (.aload_n 0, 1) := by decide +kernel
theorem dX11_choose_64 : decode cX11_choose 64 = .ok (.getfield 45, 3) := by decide +kernel
theorem dX11_choose_67 : decode cX11_choose 67 = .ok (.sipush 201, 3) := by decide +kernel
theorem dX11_choose_70 : decode cX11_choose 70 = .ok (.iload 4, 2) := by decide +kernel
theorem dX11_choose_72 : decode cX11_choose 72 = .ok (.imul, 1) := by decide +kernel
theorem dX11_choose_73 : decode cX11_choose 73 = .ok (.iload_n 3, 1) := by decide +kernel
theorem dX11_choose_74 : decode cX11_choose 74 = .ok (.iadd, 1) := by decide +kernel
theorem dX11_choose_75 : decode cX11_choose 75 = .ok (.iaload, 1) := by decide +kernel
theorem dX11_choose_76 : decode cX11_choose 76 = .ok (.if_icmp .eq 9, 3) := by decide +kernel
theorem dX11_choose_79 : decode cX11_choose 79 = .ok (.iinc 5 1, 3) := by decide +kernel
theorem dX11_choose_82 : decode cX11_choose 82 = .ok (.goto (-37), 3) := by decide +kernel
theorem dX11_choose_85 : decode cX11_choose 85 = .ok (.aload_n 0, 1) := by decide +kernel
theorem dX11_choose_86 : decode cX11_choose 86 = .ok (.getfield 48, 3) := by decide +kernel
theorem dX11_choose_89 : decode cX11_choose 89 = .ok (.iconst 2, 1) := by decide +kernel
theorem dX11_choose_90 : decode cX11_choose 90 = .ok (.iload 4, 2) := by decide +kernel
theorem dX11_choose_92 : decode cX11_choose 92 = .ok (.imul, 1) := by decide +kernel
theorem dX11_choose_93 : decode cX11_choose 93 = .ok (.iload 5, 2) := by decide +kernel
theorem dX11_choose_95 : decode cX11_choose 95 = .ok (.bipush 6, 2) := by decide +kernel
theorem dX11_choose_97 : decode cX11_choose 97 = .ok (.idiv, 1) := by decide +kernel
theorem dX11_choose_98 : decode cX11_choose 98 = .ok (.iastore, 1) := by decide +kernel
theorem dX11_choose_99 : decode cX11_choose 99 = .ok (.aload_n 0, 1) := by decide +kernel
theorem dX11_choose_100 : decode cX11_choose 100 = .ok (.getfield 48, 3) := by decide +kernel
theorem dX11_choose_103 : decode cX11_choose 103 = .ok (.iconst 2, 1) := by decide +kernel
theorem dX11_choose_104 : decode cX11_choose 104 = .ok (.iload 4, 2) := by decide +kernel
theorem dX11_choose_106 : decode cX11_choose 106 = .ok (.imul, 1) := by decide +kernel
theorem dX11_choose_107 : decode cX11_choose 107 = .ok (.iconst 1, 1) := by decide +kernel
theorem dX11_choose_108 : decode cX11_choose 108 = .ok (.iadd, 1) := by decide +kernel
theorem dX11_choose_109 : decode cX11_choose 109 = .ok (.iload 5, 2) := by decide +kernel
theorem dX11_choose_111 : decode cX11_choose 111 = .ok (.bipush 6, 2) := by decide +kernel
theorem dX11_choose_113 : decode cX11_choose 113 = .ok (.irem, 1) := by decide +kernel
theorem dX11_choose_114 : decode cX11_choose 114 = .ok (.iastore, 1) := by decide +kernel
theorem dX11_choose_115 : decode cX11_choose 115 = .ok (.aload_n 0, 1) := by decide +kernel
theorem dX11_choose_116 : decode cX11_choose 116 = .ok (.iload 4, 2) := by decide +kernel
theorem dX11_choose_118 : decode cX11_choose 118 = .ok (.iload 5, 2) := by decide +kernel
theorem dX11_choose_120 : decode cX11_choose 120 = .ok (.bipush 6, 2) := by decide +kernel
theorem dX11_choose_122 : decode cX11_choose 122 = .ok (.idiv, 1) := by decide +kernel
theorem dX11_choose_123 : decode cX11_choose 123 = .ok (.iload 5, 2) := by decide +kernel
theorem dX11_choose_125 : decode cX11_choose 125 = .ok (.bipush 6, 2) := by decide +kernel
theorem dX11_choose_127 : decode cX11_choose 127 = .ok (.irem, 1) := by decide +kernel
theorem dX11_choose_128 : decode cX11_choose 128 = .ok (.invokevirtual 207, 3) := by decide +kernel
theorem dX11_choose_131 : decode cX11_choose 131 = .ok (.istore 6, 2) := by decide +kernel
theorem dX11_choose_133 : decode cX11_choose 133 = .ok (.aload_n 0, 1) := by decide +kernel
theorem dX11_choose_134 : decode cX11_choose 134 = .ok (.dup, 1) := by decide +kernel
theorem dX11_choose_135 : decode cX11_choose 135 = .ok (.getfield 217, 3) := by decide +kernel
theorem dX11_choose_138 : decode cX11_choose 138 = .ok (.iload 6, 2) := by decide +kernel
theorem dX11_choose_140 : decode cX11_choose 140 = .ok (.iadd, 1) := by decide +kernel
theorem dX11_choose_141 : decode cX11_choose 141 = .ok (.putfield 217, 3) := by decide +kernel
theorem dX11_choose_144 : decode cX11_choose 144 = .ok (.iload_n 3, 1) := by decide +kernel
theorem dX11_choose_145 : decode cX11_choose 145 = .ok (.iload 6, 2) := by decide +kernel
theorem dX11_choose_147 : decode cX11_choose 147 = .ok (.if_icmp .le 10, 3) := by decide +kernel
theorem dX11_choose_150 : decode cX11_choose 150 = .ok (.iload_n 3, 1) := by decide +kernel
theorem dX11_choose_151 : decode cX11_choose 151 = .ok (.iload 6, 2) := by decide +kernel
theorem dX11_choose_153 : decode cX11_choose 153 = .ok (.isub, 1) := by decide +kernel
theorem dX11_choose_154 : decode cX11_choose 154 = .ok (.goto 4, 3) := by decide +kernel
theorem dX11_choose_157 : decode cX11_choose 157 = .ok (.iconst 0, 1) := by decide +kernel
theorem dX11_choose_158 : decode cX11_choose 158 = .ok (.istore_n 3, 1) := by decide +kernel
theorem dX11_choose_159 : decode cX11_choose 159 = .ok (.iinc 4 1, 3) := by decide +kernel
theorem dX11_choose_162 : decode cX11_choose 162 = .ok (.goto (-134), 3) := by decide +kernel
theorem dX11_choose_165 : decode cX11_choose 165 = .ok (.iconst 1, 1) := by decide +kernel
theorem dX11_choose_166 : decode cX11_choose 166 = .ok (.ireturn, 1) := by decide +kernel
theorem dX11_isPlan_0 : decode cX11_isPlan 0 = .ok (.iload_n 0, 1) := by decide +kernel
theorem dX11_isPlan_1 : decode cX11_isPlan 1 = .ok (.i2l, 1) := by decide +kernel
theorem dX11_isPlan_2 : decode cX11_isPlan 2 = .ok (.lconst 0, 1) := by decide +kernel
theorem dX11_isPlan_3 : decode cX11_isPlan 3 = .ok (.lconst 1, 1) := by decide +kernel
theorem dX11_isPlan_4 : decode cX11_isPlan 4 = .ok (.invokestatic 80, 3) := by decide +kernel
theorem dX11_isPlan_7 : decode cX11_isPlan 7 = .ok (.ifCond .eq 19, 3) := by decide +kernel
theorem dX11_isPlan_10 : decode cX11_isPlan 10 = .ok (.iload_n 1, 1) := by decide +kernel
theorem dX11_isPlan_11 : decode cX11_isPlan 11 = .ok (.i2l, 1) := by decide +kernel
theorem dX11_isPlan_12 : decode cX11_isPlan 12 = .ok (.lconst 0, 1) := by decide +kernel
theorem dX11_isPlan_13 : decode cX11_isPlan 13 = .ok (.ldc2_w 220, 3) := by decide +kernel
theorem dX11_isPlan_16 : decode cX11_isPlan 16 = .ok (.invokestatic 80, 3) := by decide +kernel
theorem dX11_isPlan_19 : decode cX11_isPlan 19 = .ok (.ifCond .eq 7, 3) := by decide +kernel
theorem dX11_isPlan_22 : decode cX11_isPlan 22 = .ok (.iconst 1, 1) := by decide +kernel
theorem dX11_isPlan_23 : decode cX11_isPlan 23 = .ok (.goto 4, 3) := by decide +kernel
theorem dX11_isPlan_26 : decode cX11_isPlan 26 = .ok (.iconst 0, 1) := by decide +kernel
theorem dX11_isPlan_27 : decode cX11_isPlan 27 = .ok (.ireturn, 1) := by decide +kernel
theorem dX11_plan_0 : decode cX11_plan 0 = .ok (.iload_n 1, 1) := by decide +kernel
theorem dX11_plan_1 : decode cX11_plan 1 = .ok (.iload_n 2, 1) := by decide +kernel
theorem dX11_plan_2 : decode cX11_plan 2 = .ok (.invokestatic 222, 3) := by decide +kernel
theorem dX11_plan_5 : decode cX11_plan 5 = .ok (.ifCond .eq 13, 3) := by decide +kernel
theorem dX11_plan_8 : decode cX11_plan 8 = .ok (.iload_n 3, 1) := by decide +kernel
theorem dX11_plan_9 : decode cX11_plan 9 = .ok (.i2l, 1) := by decide +kernel
theorem dX11_plan_10 : decode cX11_plan 10 = .ok (.lconst 0, 1) := by decide +kernel
theorem dX11_plan_11 : decode cX11_plan 11 = .ok (.lconst 1, 1) := by decide +kernel
theorem dX11_plan_12 : decode cX11_plan 12 = .ok (.invokestatic 80, 3) := by decide +kernel
theorem dX11_plan_15 : decode cX11_plan 15 = .ok (.ifCond .ne 6, 3) := by decide +kernel
theorem dX11_plan_18 : decode cX11_plan 18 = .ok (.bipush (-3), 2) := by decide +kernel
theorem dX11_plan_20 : decode cX11_plan 20 = .ok (.ireturn, 1) := by decide +kernel
theorem dX11_plan_21 : decode cX11_plan 21 = .ok (.aload_n 0, 1) := by decide +kernel
theorem dX11_plan_22 : decode cX11_plan 22 = .ok (.iload_n 1, 1) := by decide +kernel
theorem dX11_plan_23 : decode cX11_plan 23 = .ok (.iload_n 2, 1) := by decide +kernel
theorem dX11_plan_24 : decode cX11_plan 24 = .ok (.invokevirtual 225, 3) := by decide +kernel
theorem dX11_plan_27 : decode cX11_plan 27 = .ok (.ifCond .ne 7, 3) := by decide +kernel
theorem dX11_plan_30 : decode cX11_plan 30 = .ok (.iconst (-1), 1) := by decide +kernel
theorem dX11_plan_31 : decode cX11_plan 31 = .ok (.goto 20, 3) := by decide +kernel
theorem dX11_plan_34 : decode cX11_plan 34 = .ok (.iload_n 3, 1) := by decide +kernel
theorem dX11_plan_35 : decode cX11_plan 35 = .ok (.ifCond .ne 12, 3) := by decide +kernel
theorem dX11_plan_38 : decode cX11_plan 38 = .ok (.aload_n 0, 1) := by decide +kernel
theorem dX11_plan_39 : decode cX11_plan 39 = .ok (.getfield 45, 3) := by decide +kernel
theorem dX11_plan_42 : decode cX11_plan 42 = .ok (.iload_n 2, 1) := by decide +kernel
theorem dX11_plan_43 : decode cX11_plan 43 = .ok (.iaload, 1) := by decide +kernel
theorem dX11_plan_44 : decode cX11_plan 44 = .ok (.goto 7, 3) := by decide +kernel
theorem dX11_plan_47 : decode cX11_plan 47 = .ok (.aload_n 0, 1) := by decide +kernel
theorem dX11_plan_48 : decode cX11_plan 48 = .ok (.getfield 217, 3) := by decide +kernel
theorem dX11_plan_51 : decode cX11_plan 51 = .ok (.ireturn, 1) := by decide +kernel
theorem dX11_planned_0 : decode cX11_planned 0 = .ok (.iload_n 3, 1) := by decide +kernel
theorem dX11_planned_1 : decode cX11_planned 1 = .ok (.invokestatic 164, 3) := by decide +kernel
theorem dX11_planned_4 : decode cX11_planned 4 = .ok (.ifCond .eq 21, 3) := by decide +kernel
theorem dX11_planned_7 : decode cX11_planned 7 = .ok (.aload_n 0, 1) := by decide +kernel
theorem dX11_planned_8 : decode cX11_planned 8 = .ok (.iload 4, 2) := by decide +kernel
theorem dX11_planned_10 : decode cX11_planned 10 = .ok (.invokevirtual 167, 3) := by decide +kernel
theorem dX11_planned_13 : decode cX11_planned 13 = .ok (.ifCond .eq 12, 3) := by decide +kernel
theorem dX11_planned_16 : decode cX11_planned 16 = .ok (.aload_n 0, 1) := by decide +kernel
theorem dX11_planned_17 : decode cX11_planned 17 = .ok (.iload 5, 2) := by decide +kernel
theorem dX11_planned_19 : decode cX11_planned 19 = .ok (.invokevirtual 170, 3) := by decide +kernel
theorem dX11_planned_22 : decode cX11_planned 22 = .ok (.ifCond .ne 6, 3) := by decide +kernel
theorem dX11_planned_25 : decode cX11_planned 25 = .ok (.bipush (-2), 2) := by decide +kernel
theorem dX11_planned_27 : decode cX11_planned 27 = .ok (.ireturn, 1) := by decide +kernel
theorem dX11_planned_28 : decode cX11_planned 28 = .ok (.iload_n 1, 1) := by decide +kernel
theorem dX11_planned_29 : decode cX11_planned 29 = .ok (.iload_n 2, 1) := by decide +kernel
theorem dX11_planned_30 : decode cX11_planned 30 = .ok (.invokestatic 222, 3) := by decide +kernel
theorem dX11_planned_33 : decode cX11_planned 33 = .ok (.ifCond .ne 6, 3) := by decide +kernel
theorem dX11_planned_36 : decode cX11_planned 36 = .ok (.bipush (-3), 2) := by decide +kernel
theorem dX11_planned_38 : decode cX11_planned 38 = .ok (.ireturn, 1) := by decide +kernel
theorem dX11_planned_39 : decode cX11_planned 39 = .ok (.aload_n 0, 1) := by decide +kernel
theorem dX11_planned_40 : decode cX11_planned 40 = .ok (.iload_n 1, 1) := by decide +kernel
theorem dX11_planned_41 : decode cX11_planned 41 = .ok (.iload_n 2, 1) := by decide +kernel
theorem dX11_planned_42 : decode cX11_planned 42 = .ok (.invokevirtual 225, 3) := by decide +kernel
theorem dX11_planned_45 : decode cX11_planned 45 = .ok (.ifCond .eq 25, 3) := by decide +kernel
theorem dX11_planned_48 : decode cX11_planned 48 = .ok (.aload_n 0, 1) := by decide +kernel
theorem dX11_planned_49 : decode cX11_planned 49 = .ok (.getfield 48, 3) := by decide +kernel
theorem dX11_planned_52 : decode cX11_planned 52 = .ok (.iconst 2, 1) := by decide +kernel
theorem dX11_planned_53 : decode cX11_planned 53 = .ok (.aload_n 0, 1) := by decide +kernel
theorem dX11_planned_54 : decode cX11_planned 54 = .ok (.getfield 27, 3) := by decide +kernel
theorem dX11_planned_57 : decode cX11_planned 57 = .ok (.iload 4, 2) := by decide +kernel
theorem dX11_planned_59 : decode cX11_planned 59 = .ok (.imul, 1) := by decide +kernel
theorem dX11_planned_60 : decode cX11_planned 60 = .ok (.iload 5, 2) := by decide +kernel
theorem dX11_planned_62 : decode cX11_planned 62 = .ok (.iadd, 1) := by decide +kernel
theorem dX11_planned_63 : decode cX11_planned 63 = .ok (.imul, 1) := by decide +kernel
theorem dX11_planned_64 : decode cX11_planned 64 = .ok (.iload_n 3, 1) := by decide +kernel
theorem dX11_planned_65 : decode cX11_planned 65 = .ok (.iadd, 1) := by decide +kernel
theorem dX11_planned_66 : decode cX11_planned 66 = .ok (.iaload, 1) := by decide +kernel
theorem dX11_planned_67 : decode cX11_planned 67 = .ok (.goto 4, 3) := by decide +kernel
theorem dX11_planned_70 : decode cX11_planned 70 = .ok (.iconst (-1), 1) := by decide +kernel
theorem dX11_planned_71 : decode cX11_planned 71 = .ok (.ireturn, 1) := by decide +kernel
theorem dX11_classAt_0 : decode cX11_classAt 0 = .ok (.iload_n 0, 1) := by decide +kernel
theorem dX11_classAt_1 : decode cX11_classAt 1 = .ok (.iconst 2, 1) := by decide +kernel
theorem dX11_classAt_2 : decode cX11_classAt 2 = .ok (.iload_n 1, 1) := by decide +kernel
theorem dX11_classAt_3 : decode cX11_classAt 3 = .ok (.imul, 1) := by decide +kernel
theorem dX11_classAt_4 : decode cX11_classAt 4 = .ok (.ishr, 1) := by decide +kernel
theorem dX11_classAt_5 : decode cX11_classAt 5 = .ok (.iconst 3, 1) := by decide +kernel
theorem dX11_classAt_6 : decode cX11_classAt 6 = .ok (.iand, 1) := by decide +kernel
theorem dX11_classAt_7 : decode cX11_classAt 7 = .ok (.ireturn, 1) := by decide +kernel
theorem dX11_news_0 : decode cX11_news 0 = .ok (.iload_n 2, 1) := by decide +kernel
theorem dX11_news_1 : decode cX11_news 1 = .ok (.i2l, 1) := by decide +kernel
theorem dX11_news_2 : decode cX11_news 2 = .ok (.lconst 1, 1) := by decide +kernel
theorem dX11_news_3 : decode cX11_news 3 = .ok (.ldc2_w 228, 3) := by decide +kernel
theorem dX11_news_6 : decode cX11_news 6 = .ok (.invokestatic 80, 3) := by decide +kernel
theorem dX11_news_9 : decode cX11_news 9 = .ok (.ifCond .eq 15, 3) := by decide +kernel
theorem dX11_news_12 : decode cX11_news 12 = .ok (.iload_n 3, 1) := by decide +kernel
theorem dX11_news_13 : decode cX11_news 13 = .ok (.i2l, 1) := by decide +kernel
theorem dX11_news_14 : decode cX11_news 14 = .ok (.lconst 0, 1) := by decide +kernel
theorem dX11_news_15 : decode cX11_news 15 = .ok (.ldc2_w 230, 3) := by decide +kernel
theorem dX11_news_18 : decode cX11_news 18 = .ok (.invokestatic 80, 3) := by decide +kernel
theorem dX11_news_21 : decode cX11_news 21 = .ok (.ifCond .ne 6, 3) := by decide +kernel
theorem dX11_news_24 : decode cX11_news 24 = .ok (.bipush (-3), 2) := by decide +kernel
theorem dX11_news_26 : decode cX11_news 26 = .ok (.ireturn, 1) := by decide +kernel
theorem dX11_news_27 : decode cX11_news 27 = .ok (.iconst 0, 1) := by decide +kernel
theorem dX11_news_28 : decode cX11_news 28 = .ok (.istore 5, 2) := by decide +kernel
theorem dX11_news_30 : decode cX11_news 30 = .ok (.iload 5, 2) := by decide +kernel
theorem dX11_news_32 : decode cX11_news 32 = .ok (.iconst 4, 1) := by decide +kernel
theorem dX11_news_33 : decode cX11_news 33 = .ok (.if_icmp .ge 27, 3) := by decide +kernel
theorem dX11_news_36 : decode cX11_news 36 = .ok (.aload_n 0, 1) := by decide +kernel
theorem dX11_news_37 : decode cX11_news 37 = .ok (.getfield 51, 3) := by decide +kernel
theorem dX11_news_40 : decode cX11_news 40 = .ok (.iload 5, 2) := by decide +kernel
theorem dX11_news_42 : decode cX11_news 42 = .ok (.iload 5, 2) := by decide +kernel
theorem dX11_news_44 : decode cX11_news 44 = .ok (.ifCond .ne 7, 3) := by decide +kernel
theorem dX11_news_47 : decode cX11_news 47 = .ok (.iconst 0, 1) := by decide +kernel
theorem dX11_news_48 : decode cX11_news 48 = .ok (.goto 5, 3) := by decide +kernel
theorem dX11_news_51 : decode cX11_news 51 = .ok (.ldc 232, 2) := by decide +kernel
theorem dX11_news_53 : decode cX11_news 53 = .ok (.iastore, 1) := by decide +kernel
theorem dX11_news_54 : decode cX11_news 54 = .ok (.iinc 5 1, 3) := by decide +kernel
theorem dX11_news_57 : decode cX11_news 57 = .ok (.goto (-27), 3) := by decide +kernel
theorem dX11_news_60 : decode cX11_news 60 = .ok (.iconst 0, 1) := by decide +kernel
theorem dX11_news_61 : decode cX11_news 61 = .ok (.istore 5, 2) := by decide +kernel
theorem dX11_news_63 : decode cX11_news 63 = .ok (.iload 5, 2) := by decide +kernel
theorem dX11_news_65 : decode cX11_news 65 = .ok (.iload_n 2, 1) := by decide +kernel
theorem dX11_news_66 : decode cX11_news 66 = .ok (.if_icmp .ge 180, 3) := by decide +kernel
theorem dX11_news_69 : decode cX11_news 69 = .ok (.iconst 0, 1) := by decide +kernel
theorem dX11_news_70 : decode cX11_news 70 = .ok (.istore 6, 2) := by decide +kernel
theorem dX11_news_72 : decode cX11_news 72 = .ok (.iload 6, 2) := by decide +kernel
theorem dX11_news_74 : decode cX11_news 74 = .ok (.iconst 4, 1) := by decide +kernel
theorem dX11_news_75 : decode cX11_news 75 = .ok (.if_icmp .ge 136, 3) := by decide +kernel
theorem dX11_news_78 : decode cX11_news 78 = .ok (.aload_n 0, 1) := by decide +kernel
theorem dX11_news_79 : decode cX11_news 79 = .ok (.getfield 54, 3) := by decide +kernel
theorem dX11_news_82 : decode cX11_news 82 = .ok (.iload 6, 2) := by decide +kernel
theorem dX11_news_84 : decode cX11_news 84 = .ok (.ldc 232, 2) := by decide +kernel
theorem dX11_news_86 : decode cX11_news 86 = .ok (.iastore, 1) := by decide +kernel
theorem dX11_news_87 : decode cX11_news 87 = .ok (.iconst 0, 1) := by decide +kernel
theorem dX11_news_88 : decode cX11_news 88 = .ok (.istore 7, 2) := by decide +kernel
theorem dX11_news_90 : decode cX11_news 90 = .ok (.iload 7, 2) := by decide +kernel
theorem dX11_news_92 : decode cX11_news 92 = .ok (.iconst 4, 1) := by decide +kernel
theorem dX11_news_93 : decode cX11_news 93 = .ok (.if_icmp .ge 112, 3) := by decide +kernel
theorem dX11_news_96 : decode cX11_news 96 = .ok (.iload 6, 2) := by decide +kernel
theorem dX11_news_98 : decode cX11_news 98 = .ok (.iload 7, 2) := by decide +kernel
theorem dX11_news_100 : decode cX11_news 100 = .ok (.if_icmp .ne 13, 3) := by decide +kernel
theorem dX11_news_103 : decode cX11_news 103 = .ok (.aload_n 0, 1) := by decide +kernel
theorem dX11_news_104 : decode cX11_news 104 = .ok (.getfield 51, 3) := by decide +kernel
theorem dX11_news_107 : decode cX11_news 107 = .ok (.iload 7, 2) := by decide +kernel
theorem dX11_news_109 : decode cX11_news 109 = .ok (.iaload, 1) := by decide +kernel
theorem dX11_news_110 : decode cX11_news 110 = .ok (.goto 23, 3) := by decide +kernel
theorem dX11_news_113 : decode cX11_news 113 = .ok (.iload 5, 2) := by decide +kernel
theorem dX11_news_115 : decode cX11_news 115 = .ok (.iload_n 3, 1) := by decide +kernel
theorem dX11_news_116 : decode cX11_news 116 = .ok (.if_icmp .lt 15, 3) := by decide +kernel
theorem dX11_news_119 : decode cX11_news 119 = .ok (.aload_n 0, 1) := by decide +kernel
theorem dX11_news_120 : decode cX11_news 120 = .ok (.getfield 51, 3) := by decide +kernel
theorem dX11_news_123 : decode cX11_news 123 = .ok (.iload 7, 2) := by decide +kernel
theorem dX11_news_125 : decode cX11_news 125 = .ok (.iaload, 1) := by decide +kernel
theorem dX11_news_126 : decode cX11_news 126 = .ok (.iconst 1, 1) := by decide +kernel
theorem dX11_news_127 : decode cX11_news 127 = .ok (.iadd, 1) := by decide +kernel
theorem dX11_news_128 : decode cX11_news 128 = .ok (.goto 5, 3) := by decide +kernel
theorem dX11_news_131 : decode cX11_news 131 = .ok (.ldc 232, 2) := by decide +kernel
theorem dX11_news_133 : decode cX11_news 133 = .ok (.istore 8, 2) := by decide +kernel
theorem dX11_news_135 : decode cX11_news 135 = .ok (.iload_n 1, 1) := by decide +kernel
theorem dX11_news_136 : decode cX11_news 136 = .ok (.iload 5, 2) := by decide +kernel
theorem dX11_news_138 : decode cX11_news 138 = .ok (.invokestatic 233, 3) := by decide +kernel
theorem dX11_news_141 : decode cX11_news 141 = .ok (.iload 6, 2) := by decide +kernel
theorem dX11_news_143 : decode cX11_news 143 = .ok (.if_icmp .ne 7, 3) := by decide +kernel
theorem dX11_news_146 : decode cX11_news 146 = .ok (.iconst 1, 1) := by decide +kernel
theorem dX11_news_147 : decode cX11_news 147 = .ok (.goto 4, 3) := by decide +kernel
theorem dX11_news_150 : decode cX11_news 150 = .ok (.iconst 0, 1) := by decide +kernel
theorem dX11_news_151 : decode cX11_news 151 = .ok (.iload 4, 2) := by decide +kernel
theorem dX11_news_153 : decode cX11_news 153 = .ok (.if_icmp .ne 7, 3) := by decide +kernel
theorem dX11_news_156 : decode cX11_news 156 = .ok (.iconst 1, 1) := by decide +kernel
theorem dX11_news_157 : decode cX11_news 157 = .ok (.goto 4, 3) := by decide +kernel
theorem dX11_news_160 : decode cX11_news 160 = .ok (.iconst 0, 1) := by decide +kernel
theorem dX11_news_161 : decode cX11_news 161 = .ok (.istore 9, 2) := by decide +kernel
theorem dX11_news_163 : decode cX11_news 163 = .ok (.aload_n 0, 1) := by decide +kernel
theorem dX11_news_164 : decode cX11_news 164 = .ok (.getfield 54, 3) := by decide +kernel
theorem dX11_news_167 : decode cX11_news 167 = .ok (.iload 6, 2) := by decide +kernel
theorem dX11_news_169 : decode cX11_news 169 = .ok (.iload 9, 2) := by decide +kernel
theorem dX11_news_171 : decode cX11_news 171 = .ok (.ifCond .eq 20, 3) := by decide +kernel
theorem dX11_news_174 : decode cX11_news 174 = .ok (.iload 8, 2) := by decide +kernel
theorem dX11_news_176 : decode cX11_news 176 = .ok (.aload_n 0, 1) := by decide +kernel
theorem dX11_news_177 : decode cX11_news 177 = .ok (.getfield 54, 3) := by decide +kernel
theorem dX11_news_180 : decode cX11_news 180 = .ok (.iload 6, 2) := by decide +kernel
theorem dX11_news_182 : decode cX11_news 182 = .ok (.iaload, 1) := by decide +kernel
theorem dX11_news_183 : decode cX11_news 183 = .ok (.if_icmp .ge 8, 3) := by decide +kernel
theorem dX11_news_186 : decode cX11_news 186 = .ok (.iload 8, 2) := by decide +kernel
theorem dX11_news_188 : decode cX11_news 188 = .ok (.goto 10, 3) := by decide +kernel
theorem dX11_news_191 : decode cX11_news 191 = .ok (.aload_n 0, 1) := by decide +kernel
theorem dX11_news_192 : decode cX11_news 192 = .ok (.getfield 54, 3) := by decide +kernel
theorem dX11_news_195 : decode cX11_news 195 = .ok (.iload 6, 2) := by decide +kernel
theorem dX11_news_197 : decode cX11_news 197 = .ok (.iaload, 1) := by decide +kernel
theorem dX11_news_198 : decode cX11_news 198 = .ok (.iastore, 1) := by decide +kernel
theorem dX11_news_199 : decode cX11_news 199 = .ok (.iinc 7 1, 3) := by decide +kernel
theorem dX11_news_202 : decode cX11_news 202 = .ok (.goto (-112), 3) := by decide +kernel
theorem dX11_news_205 : decode cX11_news 205 = .ok (.iinc 6 1, 3) := by decide +kernel
theorem dX11_news_208 : decode cX11_news 208 = .ok (.goto (-136), 3) := by decide +kernel
theorem dX11_news_211 : decode cX11_news 211 = .ok (.iconst 0, 1) := by decide +kernel
theorem dX11_news_212 : decode cX11_news 212 = .ok (.istore 6, 2) := by decide +kernel
theorem dX11_news_214 : decode cX11_news 214 = .ok (.iload 6, 2) := by decide +kernel
theorem dX11_news_216 : decode cX11_news 216 = .ok (.iconst 4, 1) := by decide +kernel
theorem dX11_news_217 : decode cX11_news 217 = .ok (.if_icmp .ge 23, 3) := by decide +kernel
theorem dX11_news_220 : decode cX11_news 220 = .ok (.aload_n 0, 1) := by decide +kernel
theorem dX11_news_221 : decode cX11_news 221 = .ok (.getfield 51, 3) := by decide +kernel
theorem dX11_news_224 : decode cX11_news 224 = .ok (.iload 6, 2) := by decide +kernel
theorem dX11_news_226 : decode cX11_news 226 = .ok (.aload_n 0, 1) := by decide +kernel
theorem dX11_news_227 : decode cX11_news 227 = .ok (.getfield 54, 3) := by decide +kernel
theorem dX11_news_230 : decode cX11_news 230 = .ok (.iload 6, 2) := by decide +kernel
theorem dX11_news_232 : decode cX11_news 232 = .ok (.iaload, 1) := by decide +kernel
theorem dX11_news_233 : decode cX11_news 233 = .ok (.iastore, 1) := by decide +kernel
theorem dX11_news_234 : decode cX11_news 234 = .ok (.iinc 6 1, 3) := by decide +kernel
theorem dX11_news_237 : decode cX11_news 237 = .ok (.goto (-23), 3) := by decide +kernel
theorem dX11_news_240 : decode cX11_news 240 = .ok (.iinc 5 1, 3) := by decide +kernel
theorem dX11_news_243 : decode cX11_news 243 = .ok (.goto (-180), 3) := by decide +kernel
theorem dX11_news_246 : decode cX11_news 246 = .ok (.ldc 232, 2) := by decide +kernel
theorem dX11_news_248 : decode cX11_news 248 = .ok (.istore 5, 2) := by decide +kernel
theorem dX11_news_250 : decode cX11_news 250 = .ok (.iconst 0, 1) := by decide +kernel
theorem dX11_news_251 : decode cX11_news 251 = .ok (.istore 6, 2) := by decide +kernel
theorem dX11_news_253 : decode cX11_news 253 = .ok (.iload 6, 2) := by decide +kernel
theorem dX11_news_255 : decode cX11_news 255 = .ok (.iconst 4, 1) := by decide +kernel
theorem dX11_news_256 : decode cX11_news 256 = .ok (.if_icmp .ge 35, 3) := by decide +kernel
theorem dX11_news_259 : decode cX11_news 259 = .ok (.aload_n 0, 1) := by decide +kernel
theorem dX11_news_260 : decode cX11_news 260 = .ok (.getfield 51, 3) := by decide +kernel
theorem dX11_news_263 : decode cX11_news 263 = .ok (.iload 6, 2) := by decide +kernel
theorem dX11_news_265 : decode cX11_news 265 = .ok (.iaload, 1) := by decide +kernel
theorem dX11_news_266 : decode cX11_news 266 = .ok (.iload 5, 2) := by decide +kernel
theorem dX11_news_268 : decode cX11_news 268 = .ok (.if_icmp .ge 13, 3) := by decide +kernel
theorem dX11_news_271 : decode cX11_news 271 = .ok (.aload_n 0, 1) := by decide +kernel
theorem dX11_news_272 : decode cX11_news 272 = .ok (.getfield 51, 3) := by decide +kernel
theorem dX11_news_275 : decode cX11_news 275 = .ok (.iload 6, 2) := by decide +kernel
theorem dX11_news_277 : decode cX11_news 277 = .ok (.iaload, 1) := by decide +kernel
theorem dX11_news_278 : decode cX11_news 278 = .ok (.goto 5, 3) := by decide +kernel
theorem dX11_news_281 : decode cX11_news 281 = .ok (.iload 5, 2) := by decide +kernel
theorem dX11_news_283 : decode cX11_news 283 = .ok (.istore 5, 2) := by decide +kernel
theorem dX11_news_285 : decode cX11_news 285 = .ok (.iinc 6 1, 3) := by decide +kernel
theorem dX11_news_288 : decode cX11_news 288 = .ok (.goto (-35), 3) := by decide +kernel
theorem dX11_news_291 : decode cX11_news 291 = .ok (.iload 5, 2) := by decide +kernel
theorem dX11_news_293 : decode cX11_news 293 = .ok (.ldc 232, 2) := by decide +kernel
theorem dX11_news_295 : decode cX11_news 295 = .ok (.if_icmp .lt 7, 3) := by decide +kernel
theorem dX11_news_298 : decode cX11_news 298 = .ok (.iconst (-1), 1) := by decide +kernel
theorem dX11_news_299 : decode cX11_news 299 = .ok (.goto 5, 3) := by decide +kernel
theorem dX11_news_302 : decode cX11_news 302 = .ok (.iload 5, 2) := by decide +kernel
theorem dX11_news_304 : decode cX11_news 304 = .ok (.ireturn, 1) := by decide +kernel
theorem dX11_harm_0 : decode cX11_harm 0 = .ok (.aload_n 0, 1) := by decide +kernel
theorem dX11_harm_1 : decode cX11_harm 1 = .ok (.iload_n 1, 1) := by decide +kernel
theorem dX11_harm_2 : decode cX11_harm 2 = .ok (.invokevirtual 167, 3) := by decide +kernel
theorem dX11_harm_5 : decode cX11_harm 5 = .ok (.ifCond .eq 11, 3) := by decide +kernel
theorem dX11_harm_8 : decode cX11_harm 8 = .ok (.aload_n 0, 1) := by decide +kernel
theorem dX11_harm_9 : decode cX11_harm 9 = .ok (.iload_n 2, 1) := by decide +kernel
theorem dX11_harm_10 : decode cX11_harm 10 = .ok (.invokevirtual 167, 3) := by decide +kernel
theorem dX11_harm_13 : decode cX11_harm 13 = .ok (.ifCond .ne 6, 3) := by decide +kernel
theorem dX11_harm_16 : decode cX11_harm 16 = .ok (.bipush (-2), 2) := by decide +kernel
theorem dX11_harm_18 : decode cX11_harm 18 = .ok (.ireturn, 1) := by decide +kernel
theorem dX11_harm_19 : decode cX11_harm 19 = .ok (.iload_n 3, 1) := by decide +kernel
theorem dX11_harm_20 : decode cX11_harm 20 = .ok (.i2l, 1) := by decide +kernel
theorem dX11_harm_21 : decode cX11_harm 21 = .ok (.lconst 0, 1) := by decide +kernel
theorem dX11_harm_22 : decode cX11_harm 22 = .ok (.ldc2_w 194, 3) := by decide +kernel
theorem dX11_harm_25 : decode cX11_harm 25 = .ok (.invokestatic 80, 3) := by decide +kernel
theorem dX11_harm_28 : decode cX11_harm 28 = .ok (.ifCond .ne 6, 3) := by decide +kernel
theorem dX11_harm_31 : decode cX11_harm 31 = .ok (.bipush (-3), 2) := by decide +kernel
theorem dX11_harm_33 : decode cX11_harm 33 = .ok (.ireturn, 1) := by decide +kernel
theorem dX11_harm_34 : decode cX11_harm 34 = .ok (.aload_n 0, 1) := by decide +kernel
theorem dX11_harm_35 : decode cX11_harm 35 = .ok (.getfield 57, 3) := by decide +kernel
theorem dX11_harm_38 : decode cX11_harm 38 = .ok (.bipush 6, 2) := by decide +kernel
theorem dX11_harm_40 : decode cX11_harm 40 = .ok (.iload_n 1, 1) := by decide +kernel
theorem dX11_harm_41 : decode cX11_harm 41 = .ok (.imul, 1) := by decide +kernel
theorem dX11_harm_42 : decode cX11_harm 42 = .ok (.iload_n 2, 1) := by decide +kernel
theorem dX11_harm_43 : decode cX11_harm 43 = .ok (.iadd, 1) := by decide +kernel
theorem dX11_harm_44 : decode cX11_harm 44 = .ok (.iaload, 1) := by decide +kernel
theorem dX11_harm_45 : decode cX11_harm 45 = .ok (.istore 4, 2) := by decide +kernel
theorem dX11_harm_47 : decode cX11_harm 47 = .ok (.aload_n 0, 1) := by decide +kernel
theorem dX11_harm_48 : decode cX11_harm 48 = .ok (.getfield 57, 3) := by decide +kernel
theorem dX11_harm_51 : decode cX11_harm 51 = .ok (.bipush 6, 2) := by decide +kernel
theorem dX11_harm_53 : decode cX11_harm 53 = .ok (.iload_n 1, 1) := by decide +kernel
theorem dX11_harm_54 : decode cX11_harm 54 = .ok (.imul, 1) := by decide +kernel
theorem dX11_harm_55 : decode cX11_harm 55 = .ok (.iload_n 2, 1) := by decide +kernel
theorem dX11_harm_56 : decode cX11_harm 56 = .ok (.iadd, 1) := by decide +kernel
theorem dX11_harm_57 : decode cX11_harm 57 = .ok (.iload_n 3, 1) := by decide +kernel
theorem dX11_harm_58 : decode cX11_harm 58 = .ok (.iastore, 1) := by decide +kernel
theorem dX11_harm_59 : decode cX11_harm 59 = .ok (.iload 4, 2) := by decide +kernel
theorem dX11_harm_61 : decode cX11_harm 61 = .ok (.ireturn, 1) := by decide +kernel
theorem dX11_bits_0 : decode cX11_bits 0 = .ok (.iconst 0, 1) := by decide +kernel
theorem dX11_bits_1 : decode cX11_bits 1 = .ok (.istore_n 1, 1) := by decide +kernel
theorem dX11_bits_2 : decode cX11_bits 2 = .ok (.iconst 0, 1) := by decide +kernel
theorem dX11_bits_3 : decode cX11_bits 3 = .ok (.istore_n 2, 1) := by decide +kernel
theorem dX11_bits_4 : decode cX11_bits 4 = .ok (.iload_n 2, 1) := by decide +kernel
theorem dX11_bits_5 : decode cX11_bits 5 = .ok (.bipush 6, 2) := by decide +kernel
theorem dX11_bits_7 : decode cX11_bits 7 = .ok (.if_icmp .ge 17, 3) := by decide +kernel
theorem dX11_bits_10 : decode cX11_bits 10 = .ok (.iload_n 1, 1) := by decide +kernel
theorem dX11_bits_11 : decode cX11_bits 11 = .ok (.iload_n 0, 1) := by decide +kernel
theorem dX11_bits_12 : decode cX11_bits 12 = .ok (.iload_n 2, 1) := by decide +kernel
theorem dX11_bits_13 : decode cX11_bits 13 = .ok (.ishr, 1) := by decide +kernel
theorem dX11_bits_14 : decode cX11_bits 14 = .ok (.iconst 1, 1) := by decide +kernel
theorem dX11_bits_15 : decode cX11_bits 15 = .ok (.iand, 1) := by decide +kernel
theorem dX11_bits_16 : decode cX11_bits 16 = .ok (.iadd, 1) := by decide +kernel
theorem dX11_bits_17 : decode cX11_bits 17 = .ok (.istore_n 1, 1) := by decide +kernel
theorem dX11_bits_18 : decode cX11_bits 18 = .ok (.iinc 2 1, 3) := by decide +kernel
theorem dX11_bits_21 : decode cX11_bits 21 = .ok (.goto (-17), 3) := by decide +kernel
theorem dX11_bits_24 : decode cX11_bits 24 = .ok (.iload_n 1, 1) := by decide +kernel
theorem dX11_bits_25 : decode cX11_bits 25 = .ok (.ireturn, 1) := by decide +kernel
theorem dX11_harmBy_0 : decode cX11_harmBy 0 = .ok (.iload_n 1, 1) := by decide +kernel
theorem dX11_harmBy_1 : decode cX11_harmBy 1 = .ok (.invokestatic 237, 3) := by decide +kernel
theorem dX11_harmBy_4 : decode cX11_harmBy 4 = .ok (.istore 5, 2) := by decide +kernel
theorem dX11_harmBy_6 : decode cX11_harmBy 6 = .ok (.iload_n 1, 1) := by decide +kernel
theorem dX11_harmBy_7 : decode cX11_harmBy 7 = .ok (.iload_n 2, 1) := by decide +kernel
theorem dX11_harmBy_8 : decode cX11_harmBy 8 = .ok (.ishr, 1) := by decide +kernel
theorem dX11_harmBy_9 : decode cX11_harmBy 9 = .ok (.iconst 1, 1) := by decide +kernel
theorem dX11_harmBy_10 : decode cX11_harmBy 10 = .ok (.iand, 1) := by decide +kernel
theorem dX11_harmBy_11 : decode cX11_harmBy 11 = .ok (.ifCond .ne 37, 3) := by decide +kernel
theorem dX11_harmBy_14 : decode cX11_harmBy 14 = .ok (.iload_n 3, 1) := by decide +kernel
theorem dX11_harmBy_15 : decode cX11_harmBy 15 = .ok (.iconst (-1), 1) := by decide +kernel
theorem dX11_harmBy_16 : decode cX11_harmBy 16 = .ok (.if_icmp .eq 28, 3) := by decide +kernel
theorem dX11_harmBy_19 : decode cX11_harmBy 19 = .ok (.iload 5, 2) := by decide +kernel
theorem dX11_harmBy_21 : decode cX11_harmBy 21 = .ok (.iload_n 3, 1) := by decide +kernel
theorem dX11_harmBy_22 : decode cX11_harmBy 22 = .ok (.if_icmp .ne 7, 3) := by decide +kernel
theorem dX11_harmBy_25 : decode cX11_harmBy 25 = .ok (.iconst 1, 1) := by decide +kernel
theorem dX11_harmBy_26 : decode cX11_harmBy 26 = .ok (.goto 4, 3) := by decide +kernel
theorem dX11_harmBy_29 : decode cX11_harmBy 29 = .ok (.iconst 0, 1) := by decide +kernel
theorem dX11_harmBy_30 : decode cX11_harmBy 30 = .ok (.iload_n 2, 1) := by decide +kernel
theorem dX11_harmBy_31 : decode cX11_harmBy 31 = .ok (.iload 4, 2) := by decide +kernel
theorem dX11_harmBy_33 : decode cX11_harmBy 33 = .ok (.if_icmp .ne 7, 3) := by decide +kernel
theorem dX11_harmBy_36 : decode cX11_harmBy 36 = .ok (.iconst 1, 1) := by decide +kernel
theorem dX11_harmBy_37 : decode cX11_harmBy 37 = .ok (.goto 4, 3) := by decide +kernel
theorem dX11_harmBy_40 : decode cX11_harmBy 40 = .ok (.iconst 0, 1) := by decide +kernel
theorem dX11_harmBy_41 : decode cX11_harmBy 41 = .ok (.if_icmp .ne 7, 3) := by decide +kernel
theorem dX11_harmBy_44 : decode cX11_harmBy 44 = .ok (.iconst 1, 1) := by decide +kernel
theorem dX11_harmBy_45 : decode cX11_harmBy 45 = .ok (.goto 4, 3) := by decide +kernel
theorem dX11_harmBy_48 : decode cX11_harmBy 48 = .ok (.iconst 0, 1) := by decide +kernel
theorem dX11_harmBy_49 : decode cX11_harmBy 49 = .ok (.istore 6, 2) := by decide +kernel
theorem dX11_harmBy_51 : decode cX11_harmBy 51 = .ok (.iload 6, 2) := by decide +kernel
theorem dX11_harmBy_53 : decode cX11_harmBy 53 = .ok (.ifCond .eq 29, 3) := by decide +kernel
theorem dX11_harmBy_56 : decode cX11_harmBy 56 = .ok (.aload_n 0, 1) := by decide +kernel
theorem dX11_harmBy_57 : decode cX11_harmBy 57 = .ok (.getfield 57, 3) := by decide +kernel
theorem dX11_harmBy_60 : decode cX11_harmBy 60 = .ok (.bipush 6, 2) := by decide +kernel
theorem dX11_harmBy_62 : decode cX11_harmBy 62 = .ok (.iload 5, 2) := by decide +kernel
theorem dX11_harmBy_64 : decode cX11_harmBy 64 = .ok (.imul, 1) := by decide +kernel
theorem dX11_harmBy_65 : decode cX11_harmBy 65 = .ok (.iload_n 2, 1) := by decide +kernel
theorem dX11_harmBy_66 : decode cX11_harmBy 66 = .ok (.iadd, 1) := by decide +kernel
theorem dX11_harmBy_67 : decode cX11_harmBy 67 = .ok (.iaload, 1) := by decide +kernel
theorem dX11_harmBy_68 : decode cX11_harmBy 68 = .ok (.aload_n 0, 1) := by decide +kernel
theorem dX11_harmBy_69 : decode cX11_harmBy 69 = .ok (.getfield 60, 3) := by decide +kernel
theorem dX11_harmBy_72 : decode cX11_harmBy 72 = .ok (.iload_n 1, 1) := by decide +kernel
theorem dX11_harmBy_73 : decode cX11_harmBy 73 = .ok (.iconst 1, 1) := by decide +kernel
theorem dX11_harmBy_74 : decode cX11_harmBy 74 = .ok (.iload_n 2, 1) := by decide +kernel
theorem dX11_harmBy_75 : decode cX11_harmBy 75 = .ok (.ishl, 1) := by decide +kernel
theorem dX11_harmBy_76 : decode cX11_harmBy 76 = .ok (.ior, 1) := by decide +kernel
theorem dX11_harmBy_77 : decode cX11_harmBy 77 = .ok (.iaload, 1) := by decide +kernel
theorem dX11_harmBy_78 : decode cX11_harmBy 78 = .ok (.iadd, 1) := by decide +kernel
theorem dX11_harmBy_79 : decode cX11_harmBy 79 = .ok (.goto 5, 3) := by decide +kernel
theorem dX11_harmBy_82 : decode cX11_harmBy 82 = .ok (.ldc 232, 2) := by decide +kernel
theorem dX11_harmBy_84 : decode cX11_harmBy 84 = .ok (.ireturn, 1) := by decide +kernel
theorem dX11_layRests_0 : decode cX11_layRests 0 = .ok (.iconst 1, 1) := by decide +kernel
theorem dX11_layRests_1 : decode cX11_layRests 1 = .ok (.aload_n 0, 1) := by decide +kernel
theorem dX11_layRests_2 : decode cX11_layRests 2 = .ok (.getfield 23, 3) := by decide +kernel
theorem dX11_layRests_5 : decode cX11_layRests 5 = .ok (.ishl, 1) := by decide +kernel
theorem dX11_layRests_6 : decode cX11_layRests 6 = .ok (.iconst 1, 1) := by decide +kernel
theorem dX11_layRests_7 : decode cX11_layRests 7 = .ok (.isub, 1) := by decide +kernel
theorem dX11_layRests_8 : decode cX11_layRests 8 = .ok (.istore_n 3, 1) := by decide +kernel
theorem dX11_layRests_9 : decode cX11_layRests 9 = .ok (.iload_n 3, 1) := by decide +kernel
theorem dX11_layRests_10 : decode cX11_layRests 10 = .ok (.ifCond .lt 97, 3) := by decide +kernel
theorem dX11_layRests_13 : decode cX11_layRests 13 = .ok (.iload_n 3, 1) := by decide +kernel
theorem dX11_layRests_14 : decode cX11_layRests 14 = .ok (.invokestatic 237, 3) := by decide +kernel
theorem dX11_layRests_17 : decode cX11_layRests 17 = .ok (.aload_n 0, 1) := by decide +kernel
theorem dX11_layRests_18 : decode cX11_layRests 18 = .ok (.getfield 23, 3) := by decide +kernel
theorem dX11_layRests_21 : decode cX11_layRests 21 = .ok (.if_icmp .ne 7, 3) := by decide +kernel
theorem dX11_layRests_24 : decode cX11_layRests 24 = .ok (.iconst 0, 1) := by decide +kernel
theorem dX11_layRests_25 : decode cX11_layRests 25 = .ok (.goto 5, 3) := by decide +kernel
theorem dX11_layRests_28 : decode cX11_layRests 28 = .ok (.ldc 232, 2) := by decide +kernel
theorem dX11_layRests_30 : decode cX11_layRests 30 = .ok (.istore 4, 2) := by decide +kernel
theorem dX11_layRests_32 : decode cX11_layRests 32 = .ok (.iconst 0, 1) := by decide +kernel
theorem dX11_layRests_33 : decode cX11_layRests 33 = .ok (.istore 5, 2) := by decide +kernel
theorem dX11_layRests_35 : decode cX11_layRests 35 = .ok (.iload 5, 2) := by decide +kernel
theorem dX11_layRests_37 : decode cX11_layRests 37 = .ok (.aload_n 0, 1) := by decide +kernel
theorem dX11_layRests_38 : decode cX11_layRests 38 = .ok (.getfield 23, 3) := by decide +kernel
theorem dX11_layRests_41 : decode cX11_layRests 41 = .ok (.if_icmp .ge 52, 3) := by decide +kernel
theorem dX11_layRests_44 : decode cX11_layRests 44 = .ok (.iload_n 3, 1) := by decide +kernel
theorem dX11_layRests_45 : decode cX11_layRests 45 = .ok (.invokestatic 237, 3) := by decide +kernel
theorem dX11_layRests_48 : decode cX11_layRests 48 = .ok (.aload_n 0, 1) := by decide +kernel
theorem dX11_layRests_49 : decode cX11_layRests 49 = .ok (.getfield 23, 3) := by decide +kernel
theorem dX11_layRests_52 : decode cX11_layRests 52 = .ok (.if_icmp .ge 15, 3) := by decide +kernel
theorem dX11_layRests_55 : decode cX11_layRests 55 = .ok (.aload_n 0, 1) := by decide +kernel
theorem dX11_layRests_56 : decode cX11_layRests 56 = .ok (.iload_n 3, 1) := by decide +kernel
theorem dX11_layRests_57 : decode cX11_layRests 57 = .ok (.iload 5, 2) := by decide +kernel
theorem dX11_layRests_59 : decode cX11_layRests 59 = .ok (.iload_n 1, 1) := by decide +kernel
theorem dX11_layRests_60 : decode cX11_layRests 60 = .ok (.iload_n 2, 1) := by decide +kernel
theorem dX11_layRests_61 : decode cX11_layRests 61 = .ok (.invokevirtual 240, 3) := by decide +kernel
theorem dX11_layRests_64 : decode cX11_layRests 64 = .ok (.goto 5, 3) := by decide +kernel
theorem dX11_layRests_67 : decode cX11_layRests 67 = .ok (.ldc 232, 2) := by decide +kernel
theorem dX11_layRests_69 : decode cX11_layRests 69 = .ok (.istore 6, 2) := by decide +kernel
theorem dX11_layRests_71 : decode cX11_layRests 71 = .ok (.iload 6, 2) := by decide +kernel
theorem dX11_layRests_73 : decode cX11_layRests 73 = .ok (.iload 4, 2) := by decide +kernel
theorem dX11_layRests_75 : decode cX11_layRests 75 = .ok (.if_icmp .ge 8, 3) := by decide +kernel
theorem dX11_layRests_78 : decode cX11_layRests 78 = .ok (.iload 6, 2) := by decide +kernel
theorem dX11_layRests_80 : decode cX11_layRests 80 = .ok (.goto 5, 3) := by decide +kernel
theorem dX11_layRests_83 : decode cX11_layRests 83 = .ok (.iload 4, 2) := by decide +kernel
theorem dX11_layRests_85 : decode cX11_layRests 85 = .ok (.istore 4, 2) := by decide +kernel
theorem dX11_layRests_87 : decode cX11_layRests 87 = .ok (.iinc 5 1, 3) := by decide +kernel
theorem dX11_layRests_90 : decode cX11_layRests 90 = .ok (.goto (-55), 3) := by decide +kernel
theorem dX11_layRests_93 : decode cX11_layRests 93 = .ok (.aload_n 0, 1) := by decide +kernel
theorem dX11_layRests_94 : decode cX11_layRests 94 = .ok (.getfield 60, 3) := by decide +kernel
theorem dX11_layRests_97 : decode cX11_layRests 97 = .ok (.iload_n 3, 1) := by decide +kernel
theorem dX11_layRests_98 : decode cX11_layRests 98 = .ok (.iload 4, 2) := by decide +kernel
theorem dX11_layRests_100 : decode cX11_layRests 100 = .ok (.iastore, 1) := by decide +kernel
theorem dX11_layRests_101 : decode cX11_layRests 101 = .ok (.iinc 3 (-1), 3) := by decide +kernel
theorem dX11_layRests_104 : decode cX11_layRests 104 = .ok (.goto (-95), 3) := by decide +kernel
theorem dX11_layRests_107 : decode cX11_layRests 107 = .ok (.aload_n 0, 1) := by decide +kernel
theorem dX11_layRests_108 : decode cX11_layRests 108 = .ok (.getfield 60, 3) := by decide +kernel
theorem dX11_layRests_111 : decode cX11_layRests 111 = .ok (.iconst 0, 1) := by decide +kernel
theorem dX11_layRests_112 : decode cX11_layRests 112 = .ok (.iaload, 1) := by decide +kernel
theorem dX11_layRests_113 : decode cX11_layRests 113 = .ok (.ireturn, 1) := by decide +kernel
theorem dX11_anew_0 : decode cX11_anew 0 = .ok (.iload_n 1, 1) := by decide +kernel
theorem dX11_anew_1 : decode cX11_anew 1 = .ok (.iconst (-1), 1) := by decide +kernel
theorem dX11_anew_2 : decode cX11_anew 2 = .ok (.if_icmp .eq 14, 3) := by decide +kernel
theorem dX11_anew_5 : decode cX11_anew 5 = .ok (.aload_n 0, 1) := by decide +kernel
theorem dX11_anew_6 : decode cX11_anew 6 = .ok (.iload_n 1, 1) := by decide +kernel
theorem dX11_anew_7 : decode cX11_anew 7 = .ok (.invokevirtual 167, 3) := by decide +kernel
theorem dX11_anew_10 : decode cX11_anew 10 = .ok (.ifCond .ne 6, 3) := by decide +kernel
theorem dX11_anew_13 : decode cX11_anew 13 = .ok (.bipush (-2), 2) := by decide +kernel
theorem dX11_anew_15 : decode cX11_anew 15 = .ok (.ireturn, 1) := by decide +kernel
theorem dX11_anew_16 : decode cX11_anew 16 = .ok (.aload_n 0, 1) := by decide +kernel
theorem dX11_anew_17 : decode cX11_anew 17 = .ok (.iconst (-1), 1) := by decide +kernel
theorem dX11_anew_18 : decode cX11_anew 18 = .ok (.iconst (-1), 1) := by decide +kernel
theorem dX11_anew_19 : decode cX11_anew 19 = .ok (.invokevirtual 243, 3) := by decide +kernel
theorem dX11_anew_22 : decode cX11_anew 22 = .ok (.istore_n 2, 1) := by decide +kernel
theorem dX11_anew_23 : decode cX11_anew 23 = .ok (.iconst 0, 1) := by decide +kernel
theorem dX11_anew_24 : decode cX11_anew 24 = .ok (.istore_n 3, 1) := by decide +kernel
theorem dX11_anew_25 : decode cX11_anew 25 = .ok (.iconst (-1), 1) := by decide +kernel
theorem dX11_anew_26 : decode cX11_anew 26 = .ok (.istore 4, 2) := by decide +kernel
theorem dX11_anew_28 : decode cX11_anew 28 = .ok (.iconst 0, 1) := by decide +kernel
theorem dX11_anew_29 : decode cX11_anew 29 = .ok (.istore 5, 2) := by decide +kernel
theorem dX11_anew_31 : decode cX11_anew 31 = .ok (.iload 5, 2) := by decide +kernel
theorem dX11_anew_33 : decode cX11_anew 33 = .ok (.iload_n 1, 1) := by decide +kernel
theorem dX11_anew_34 : decode cX11_anew 34 = .ok (.if_icmp .gt 43, 3) := by decide +kernel
theorem dX11_anew_37 : decode cX11_anew 37 = .ok (.iconst 0, 1) := by decide +kernel
theorem dX11_anew_38 : decode cX11_anew 38 = .ok (.istore 4, 2) := by decide +kernel
theorem dX11_anew_40 : decode cX11_anew 40 = .ok (.aload_n 0, 1) := by decide +kernel
theorem dX11_anew_41 : decode cX11_anew 41 = .ok (.iload_n 3, 1) := by decide +kernel
theorem dX11_anew_42 : decode cX11_anew 42 = .ok (.iload 4, 2) := by decide +kernel
theorem dX11_anew_44 : decode cX11_anew 44 = .ok (.iconst (-1), 1) := by decide +kernel
theorem dX11_anew_45 : decode cX11_anew 45 = .ok (.iconst (-1), 1) := by decide +kernel
theorem dX11_anew_46 : decode cX11_anew 46 = .ok (.invokevirtual 240, 3) := by decide +kernel
theorem dX11_anew_49 : decode cX11_anew 49 = .ok (.aload_n 0, 1) := by decide +kernel
theorem dX11_anew_50 : decode cX11_anew 50 = .ok (.getfield 60, 3) := by decide +kernel
theorem dX11_anew_53 : decode cX11_anew 53 = .ok (.iload_n 3, 1) := by decide +kernel
theorem dX11_anew_54 : decode cX11_anew 54 = .ok (.iaload, 1) := by decide +kernel
theorem dX11_anew_55 : decode cX11_anew 55 = .ok (.if_icmp .eq 9, 3) := by decide +kernel
theorem dX11_anew_58 : decode cX11_anew 58 = .ok (.iinc 4 1, 3) := by decide +kernel
theorem dX11_anew_61 : decode cX11_anew 61 = .ok (.goto (-21), 3) := by decide +kernel
theorem dX11_anew_64 : decode cX11_anew 64 = .ok (.iload_n 3, 1) := by decide +kernel
theorem dX11_anew_65 : decode cX11_anew 65 = .ok (.iconst 1, 1) := by decide +kernel
theorem dX11_anew_66 : decode cX11_anew 66 = .ok (.iload 4, 2) := by decide +kernel
theorem dX11_anew_68 : decode cX11_anew 68 = .ok (.ishl, 1) := by decide +kernel
theorem dX11_anew_69 : decode cX11_anew 69 = .ok (.ior, 1) := by decide +kernel
theorem dX11_anew_70 : decode cX11_anew 70 = .ok (.istore_n 3, 1) := by decide +kernel
theorem dX11_anew_71 : decode cX11_anew 71 = .ok (.iinc 5 1, 3) := by decide +kernel
theorem dX11_anew_74 : decode cX11_anew 74 = .ok (.goto (-43), 3) := by decide +kernel
theorem dX11_anew_77 : decode cX11_anew 77 = .ok (.iload_n 1, 1) := by decide +kernel
theorem dX11_anew_78 : decode cX11_anew 78 = .ok (.iconst (-1), 1) := by decide +kernel
theorem dX11_anew_79 : decode cX11_anew 79 = .ok (.if_icmp .ne 7, 3) := by decide +kernel
theorem dX11_anew_82 : decode cX11_anew 82 = .ok (.iload_n 2, 1) := by decide +kernel
theorem dX11_anew_83 : decode cX11_anew 83 = .ok (.goto 5, 3) := by decide +kernel
theorem dX11_anew_86 : decode cX11_anew 86 = .ok (.iload 4, 2) := by decide +kernel
theorem dX11_anew_88 : decode cX11_anew 88 = .ok (.ireturn, 1) := by decide +kernel
theorem dX11_forced_0 : decode cX11_forced 0 = .ok (.aload_n 0, 1) := by decide +kernel
theorem dX11_forced_1 : decode cX11_forced 1 = .ok (.iload_n 1, 1) := by decide +kernel
theorem dX11_forced_2 : decode cX11_forced 2 = .ok (.invokevirtual 167, 3) := by decide +kernel
theorem dX11_forced_5 : decode cX11_forced 5 = .ok (.ifCond .eq 20, 3) := by decide +kernel
theorem dX11_forced_8 : decode cX11_forced 8 = .ok (.aload_n 0, 1) := by decide +kernel
theorem dX11_forced_9 : decode cX11_forced 9 = .ok (.iload_n 2, 1) := by decide +kernel
theorem dX11_forced_10 : decode cX11_forced 10 = .ok (.invokevirtual 167, 3) := by decide +kernel
theorem dX11_forced_13 : decode cX11_forced 13 = .ok (.ifCond .eq 12, 3) := by decide +kernel
theorem dX11_forced_16 : decode cX11_forced 16 = .ok (.aload_n 0, 1) := by decide +kernel
theorem dX11_forced_17 : decode cX11_forced 17 = .ok (.iload_n 1, 1) := by decide +kernel
theorem dX11_forced_18 : decode cX11_forced 18 = .ok (.iload_n 2, 1) := by decide +kernel
theorem dX11_forced_19 : decode cX11_forced 19 = .ok (.invokevirtual 243, 3) := by decide +kernel
theorem dX11_forced_22 : decode cX11_forced 22 = .ok (.goto 5, 3) := by decide +kernel
theorem dX11_forced_25 : decode cX11_forced 25 = .ok (.bipush (-2), 2) := by decide +kernel
theorem dX11_forced_27 : decode cX11_forced 27 = .ok (.ireturn, 1) := by decide +kernel
theorem dX11_like_0 : decode cX11_like 0 = .ok (.iload_n 1, 1) := by decide +kernel
theorem dX11_like_1 : decode cX11_like 1 = .ok (.invokestatic 164, 3) := by decide +kernel
theorem dX11_like_4 : decode cX11_like 4 = .ok (.ifCond .eq 19, 3) := by decide +kernel
theorem dX11_like_7 : decode cX11_like 7 = .ok (.aload_n 0, 1) := by decide +kernel
theorem dX11_like_8 : decode cX11_like 8 = .ok (.iload_n 2, 1) := by decide +kernel
theorem dX11_like_9 : decode cX11_like 9 = .ok (.invokevirtual 167, 3) := by decide +kernel
theorem dX11_like_12 : decode cX11_like 12 = .ok (.ifCond .eq 11, 3) := by decide +kernel
theorem dX11_like_15 : decode cX11_like 15 = .ok (.aload_n 0, 1) := by decide +kernel
theorem dX11_like_16 : decode cX11_like 16 = .ok (.iload_n 3, 1) := by decide +kernel
theorem dX11_like_17 : decode cX11_like 17 = .ok (.invokevirtual 167, 3) := by decide +kernel
theorem dX11_like_20 : decode cX11_like 20 = .ok (.ifCond .ne 6, 3) := by decide +kernel
theorem dX11_like_23 : decode cX11_like 23 = .ok (.bipush (-2), 2) := by decide +kernel
theorem dX11_like_25 : decode cX11_like 25 = .ok (.ireturn, 1) := by decide +kernel
theorem dX11_like_26 : decode cX11_like 26 = .ok (.iload_n 2, 1) := by decide +kernel
theorem dX11_like_27 : decode cX11_like 27 = .ok (.iload_n 3, 1) := by decide +kernel
theorem dX11_like_28 : decode cX11_like 28 = .ok (.if_icmp .eq 16, 3) := by decide +kernel
theorem dX11_like_31 : decode cX11_like 31 = .ok (.iload 4, 2) := by decide +kernel
theorem dX11_like_33 : decode cX11_like 33 = .ok (.i2l, 1) := by decide +kernel
theorem dX11_like_34 : decode cX11_like 34 = .ok (.lconst 0, 1) := by decide +kernel
theorem dX11_like_35 : decode cX11_like 35 = .ok (.ldc2_w 194, 3) := by decide +kernel
theorem dX11_like_38 : decode cX11_like 38 = .ok (.invokestatic 80, 3) := by decide +kernel
theorem dX11_like_41 : decode cX11_like 41 = .ok (.ifCond .ne 6, 3) := by decide +kernel
theorem dX11_like_44 : decode cX11_like 44 = .ok (.bipush (-3), 2) := by decide +kernel
theorem dX11_like_46 : decode cX11_like 46 = .ok (.ireturn, 1) := by decide +kernel
theorem dX11_like_47 : decode cX11_like 47 = .ok (.aload_n 0, 1) := by decide +kernel
theorem dX11_like_48 : decode cX11_like 48 = .ok (.getfield 63, 3) := by decide +kernel
theorem dX11_like_51 : decode cX11_like 51 = .ok (.bipush 36, 2) := by decide +kernel
theorem dX11_like_53 : decode cX11_like 53 = .ok (.iload_n 1, 1) := by decide +kernel
theorem dX11_like_54 : decode cX11_like 54 = .ok (.imul, 1) := by decide +kernel
theorem dX11_like_55 : decode cX11_like 55 = .ok (.bipush 6, 2) := by decide +kernel
theorem dX11_like_57 : decode cX11_like 57 = .ok (.iload_n 2, 1) := by decide +kernel
theorem dX11_like_58 : decode cX11_like 58 = .ok (.imul, 1) := by decide +kernel
theorem dX11_like_59 : decode cX11_like 59 = .ok (.iadd, 1) := by decide +kernel
theorem dX11_like_60 : decode cX11_like 60 = .ok (.iload_n 3, 1) := by decide +kernel
theorem dX11_like_61 : decode cX11_like 61 = .ok (.iadd, 1) := by decide +kernel
theorem dX11_like_62 : decode cX11_like 62 = .ok (.iaload, 1) := by decide +kernel
theorem dX11_like_63 : decode cX11_like 63 = .ok (.istore 5, 2) := by decide +kernel
theorem dX11_like_65 : decode cX11_like 65 = .ok (.aload_n 0, 1) := by decide +kernel
theorem dX11_like_66 : decode cX11_like 66 = .ok (.getfield 63, 3) := by decide +kernel
theorem dX11_like_69 : decode cX11_like 69 = .ok (.bipush 36, 2) := by decide +kernel
theorem dX11_like_71 : decode cX11_like 71 = .ok (.iload_n 1, 1) := by decide +kernel
theorem dX11_like_72 : decode cX11_like 72 = .ok (.imul, 1) := by decide +kernel
theorem dX11_like_73 : decode cX11_like 73 = .ok (.bipush 6, 2) := by decide +kernel
theorem dX11_like_75 : decode cX11_like 75 = .ok (.iload_n 2, 1) := by decide +kernel
theorem dX11_like_76 : decode cX11_like 76 = .ok (.imul, 1) := by decide +kernel
theorem dX11_like_77 : decode cX11_like 77 = .ok (.iadd, 1) := by decide +kernel
theorem dX11_like_78 : decode cX11_like 78 = .ok (.iload_n 3, 1) := by decide +kernel
theorem dX11_like_79 : decode cX11_like 79 = .ok (.iadd, 1) := by decide +kernel
theorem dX11_like_80 : decode cX11_like 80 = .ok (.iload 4, 2) := by decide +kernel
theorem dX11_like_82 : decode cX11_like 82 = .ok (.iastore, 1) := by decide +kernel
theorem dX11_like_83 : decode cX11_like 83 = .ok (.aload_n 0, 1) := by decide +kernel
theorem dX11_like_84 : decode cX11_like 84 = .ok (.getfield 63, 3) := by decide +kernel
theorem dX11_like_87 : decode cX11_like 87 = .ok (.bipush 36, 2) := by decide +kernel
theorem dX11_like_89 : decode cX11_like 89 = .ok (.iload_n 1, 1) := by decide +kernel
theorem dX11_like_90 : decode cX11_like 90 = .ok (.imul, 1) := by decide +kernel
theorem dX11_like_91 : decode cX11_like 91 = .ok (.bipush 6, 2) := by decide +kernel
theorem dX11_like_93 : decode cX11_like 93 = .ok (.iload_n 3, 1) := by decide +kernel
theorem dX11_like_94 : decode cX11_like 94 = .ok (.imul, 1) := by decide +kernel
theorem dX11_like_95 : decode cX11_like 95 = .ok (.iadd, 1) := by decide +kernel
theorem dX11_like_96 : decode cX11_like 96 = .ok (.iload_n 2, 1) := by decide +kernel
theorem dX11_like_97 : decode cX11_like 97 = .ok (.iadd, 1) := by decide +kernel
theorem dX11_like_98 : decode cX11_like 98 = .ok (.iload 4, 2) := by decide +kernel
theorem dX11_like_100 : decode cX11_like 100 = .ok (.iastore, 1) := by decide +kernel
theorem dX11_like_101 : decode cX11_like 101 = .ok (.iload 5, 2) := by decide +kernel
theorem dX11_like_103 : decode cX11_like 103 = .ok (.ireturn, 1) := by decide +kernel
theorem dX11_fours_0 : decode cX11_fours 0 = .ok (.iload_n 1, 1) := by decide +kernel
theorem dX11_fours_1 : decode cX11_fours 1 = .ok (.i2l, 1) := by decide +kernel
theorem dX11_fours_2 : decode cX11_fours 2 = .ok (.lconst 0, 1) := by decide +kernel
theorem dX11_fours_3 : decode cX11_fours 3 = .ok (.lconst 1, 1) := by decide +kernel
theorem dX11_fours_4 : decode cX11_fours 4 = .ok (.invokestatic 80, 3) := by decide +kernel
theorem dX11_fours_7 : decode cX11_fours 7 = .ok (.ifCond .ne 6, 3) := by decide +kernel
theorem dX11_fours_10 : decode cX11_fours 10 = .ok (.bipush (-3), 2) := by decide +kernel
theorem dX11_fours_12 : decode cX11_fours 12 = .ok (.ireturn, 1) := by decide +kernel
theorem dX11_fours_13 : decode cX11_fours 13 = .ok (.iconst 0, 1) := by decide +kernel
theorem dX11_fours_14 : decode cX11_fours 14 = .ok (.istore_n 2, 1) := by decide +kernel
theorem dX11_fours_15 : decode cX11_fours 15 = .ok (.iload_n 2, 1) := by decide +kernel
theorem dX11_fours_16 : decode cX11_fours 16 = .ok (.iconst 1, 1) := by decide +kernel
theorem dX11_fours_17 : decode cX11_fours 17 = .ok (.aload_n 0, 1) := by decide +kernel
theorem dX11_fours_18 : decode cX11_fours 18 = .ok (.getfield 23, 3) := by decide +kernel
theorem dX11_fours_21 : decode cX11_fours 21 = .ok (.ishl, 1) := by decide +kernel
theorem dX11_fours_22 : decode cX11_fours 22 = .ok (.if_icmp .ge 176, 3) := by decide +kernel
theorem dX11_fours_25 : decode cX11_fours 25 = .ok (.iconst 0, 1) := by decide +kernel
theorem dX11_fours_26 : decode cX11_fours 26 = .ok (.istore_n 3, 1) := by decide +kernel
theorem dX11_fours_27 : decode cX11_fours 27 = .ok (.iconst 0, 1) := by decide +kernel
theorem dX11_fours_28 : decode cX11_fours 28 = .ok (.istore 4, 2) := by decide +kernel
theorem dX11_fours_30 : decode cX11_fours 30 = .ok (.iload 4, 2) := by decide +kernel
theorem dX11_fours_32 : decode cX11_fours 32 = .ok (.bipush 36, 2) := by decide +kernel
theorem dX11_fours_34 : decode cX11_fours 34 = .ok (.if_icmp .ge 151, 3) := by decide +kernel
theorem dX11_fours_37 : decode cX11_fours 37 = .ok (.iload 4, 2) := by decide +kernel
theorem dX11_fours_39 : decode cX11_fours 39 = .ok (.bipush 6, 2) := by decide +kernel
theorem dX11_fours_41 : decode cX11_fours 41 = .ok (.idiv, 1) := by decide +kernel
theorem dX11_fours_42 : decode cX11_fours 42 = .ok (.istore 5, 2) := by decide +kernel
theorem dX11_fours_44 : decode cX11_fours 44 = .ok (.iload 4, 2) := by decide +kernel
theorem dX11_fours_46 : decode cX11_fours 46 = .ok (.bipush 6, 2) := by decide +kernel
theorem dX11_fours_48 : decode cX11_fours 48 = .ok (.irem, 1) := by decide +kernel
theorem dX11_fours_49 : decode cX11_fours 49 = .ok (.istore 6, 2) := by decide +kernel
theorem dX11_fours_51 : decode cX11_fours 51 = .ok (.iload 5, 2) := by decide +kernel
theorem dX11_fours_53 : decode cX11_fours 53 = .ok (.iload 6, 2) := by decide +kernel
theorem dX11_fours_55 : decode cX11_fours 55 = .ok (.if_icmp .ge 27, 3) := by decide +kernel
theorem dX11_fours_58 : decode cX11_fours 58 = .ok (.iload_n 2, 1) := by decide +kernel
theorem dX11_fours_59 : decode cX11_fours 59 = .ok (.iload 5, 2) := by decide +kernel
theorem dX11_fours_61 : decode cX11_fours 61 = .ok (.ishr, 1) := by decide +kernel
theorem dX11_fours_62 : decode cX11_fours 62 = .ok (.iconst 1, 1) := by decide +kernel
theorem dX11_fours_63 : decode cX11_fours 63 = .ok (.iand, 1) := by decide +kernel
theorem dX11_fours_64 : decode cX11_fours 64 = .ok (.iconst 1, 1) := by decide +kernel
theorem dX11_fours_65 : decode cX11_fours 65 = .ok (.if_icmp .ne 17, 3) := by decide +kernel
theorem dX11_fours_68 : decode cX11_fours 68 = .ok (.iload_n 2, 1) := by decide +kernel
theorem dX11_fours_69 : decode cX11_fours 69 = .ok (.iload 6, 2) := by decide +kernel
theorem dX11_fours_71 : decode cX11_fours 71 = .ok (.ishr, 1) := by decide +kernel
theorem dX11_fours_72 : decode cX11_fours 72 = .ok (.iconst 1, 1) := by decide +kernel
theorem dX11_fours_73 : decode cX11_fours 73 = .ok (.iand, 1) := by decide +kernel
theorem dX11_fours_74 : decode cX11_fours 74 = .ok (.iconst 1, 1) := by decide +kernel
theorem dX11_fours_75 : decode cX11_fours 75 = .ok (.if_icmp .ne 7, 3) := by decide +kernel
theorem dX11_fours_78 : decode cX11_fours 78 = .ok (.iconst 1, 1) := by decide +kernel
theorem dX11_fours_79 : decode cX11_fours 79 = .ok (.goto 4, 3) := by decide +kernel
theorem dX11_fours_82 : decode cX11_fours 82 = .ok (.iconst 0, 1) := by decide +kernel
theorem dX11_fours_83 : decode cX11_fours 83 = .ok (.istore 7, 2) := by decide +kernel
theorem dX11_fours_85 : decode cX11_fours 85 = .ok (.aload_n 0, 1) := by decide +kernel
theorem dX11_fours_86 : decode cX11_fours 86 = .ok (.getfield 63, 3) := by decide +kernel
theorem dX11_fours_89 : decode cX11_fours 89 = .ok (.iload 4, 2) := by decide +kernel
theorem dX11_fours_91 : decode cX11_fours 91 = .ok (.iaload, 1) := by decide +kernel
theorem dX11_fours_92 : decode cX11_fours 92 = .ok (.aload_n 0, 1) := by decide +kernel
theorem dX11_fours_93 : decode cX11_fours 93 = .ok (.getfield 63, 3) := by decide +kernel
theorem dX11_fours_96 : decode cX11_fours 96 = .ok (.bipush 36, 2) := by decide +kernel
theorem dX11_fours_98 : decode cX11_fours 98 = .ok (.iload 4, 2) := by decide +kernel
theorem dX11_fours_100 : decode cX11_fours 100 = .ok (.iadd, 1) := by decide +kernel
theorem dX11_fours_101 : decode cX11_fours 101 = .ok (.iaload, 1) := by decide +kernel
theorem dX11_fours_102 : decode cX11_fours 102 = .ok (.if_icmp .ge 13, 3) := by decide +kernel
theorem dX11_fours_105 : decode cX11_fours 105 = .ok (.aload_n 0, 1) := by decide +kernel
theorem dX11_fours_106 : decode cX11_fours 106 = .ok (.getfield 63, 3) := by decide +kernel
theorem dX11_fours_109 : decode cX11_fours 109 = .ok (.iload 4, 2) := by decide +kernel
theorem dX11_fours_111 : decode cX11_fours 111 = .ok (.iaload, 1) := by decide +kernel
theorem dX11_fours_112 : decode cX11_fours 112 = .ok (.goto 13, 3) := by decide +kernel
theorem dX11_fours_115 : decode cX11_fours 115 = .ok (.aload_n 0, 1) := by decide +kernel
theorem dX11_fours_116 : decode cX11_fours 116 = .ok (.getfield 63, 3) := by decide +kernel
theorem dX11_fours_119 : decode cX11_fours 119 = .ok (.bipush 36, 2) := by decide +kernel
theorem dX11_fours_121 : decode cX11_fours 121 = .ok (.iload 4, 2) := by decide +kernel
theorem dX11_fours_123 : decode cX11_fours 123 = .ok (.iadd, 1) := by decide +kernel
theorem dX11_fours_124 : decode cX11_fours 124 = .ok (.iaload, 1) := by decide +kernel
theorem dX11_fours_125 : decode cX11_fours 125 = .ok (.istore 8, 2) := by decide +kernel
theorem dX11_fours_127 : decode cX11_fours 127 = .ok (.iload 7, 2) := by decide +kernel
theorem dX11_fours_129 : decode cX11_fours 129 = .ok (.ifCond .eq 34, 3) := by decide +kernel
theorem dX11_fours_132 : decode cX11_fours 132 = .ok (.aload_n 0, 1) := by decide +kernel
theorem dX11_fours_133 : decode cX11_fours 133 = .ok (.getfield 66, 3) := by decide +kernel
theorem dX11_fours_136 : decode cX11_fours 136 = .ok (.iload_n 2, 1) := by decide +kernel
theorem dX11_fours_137 : decode cX11_fours 137 = .ok (.iconst 1, 1) := by decide +kernel
theorem dX11_fours_138 : decode cX11_fours 138 = .ok (.iload 5, 2) := by decide +kernel
theorem dX11_fours_140 : decode cX11_fours 140 = .ok (.ishl, 1) := by decide +kernel
theorem dX11_fours_141 : decode cX11_fours 141 = .ok (.iconst (-1), 1) := by decide +kernel
theorem dX11_fours_142 : decode cX11_fours 142 = .ok (.ixor, 1) := by decide +kernel
theorem dX11_fours_143 : decode cX11_fours 143 = .ok (.iand, 1) := by decide +kernel
theorem dX11_fours_144 : decode cX11_fours 144 = .ok (.iconst 1, 1) := by decide +kernel
theorem dX11_fours_145 : decode cX11_fours 145 = .ok (.iload 6, 2) := by decide +kernel
theorem dX11_fours_147 : decode cX11_fours 147 = .ok (.ishl, 1) := by decide +kernel
theorem dX11_fours_148 : decode cX11_fours 148 = .ok (.iconst (-1), 1) := by decide +kernel
theorem dX11_fours_149 : decode cX11_fours 149 = .ok (.ixor, 1) := by decide +kernel
theorem dX11_fours_150 : decode cX11_fours 150 = .ok (.iand, 1) := by decide +kernel
theorem dX11_fours_151 : decode cX11_fours 151 = .ok (.iaload, 1) := by decide +kernel
theorem dX11_fours_152 : decode cX11_fours 152 = .ok (.bipush 100, 2) := by decide +kernel
theorem dX11_fours_154 : decode cX11_fours 154 = .ok (.iload 8, 2) := by decide +kernel
theorem dX11_fours_156 : decode cX11_fours 156 = .ok (.imul, 1) := by decide +kernel
theorem dX11_fours_157 : decode cX11_fours 157 = .ok (.iadd, 1) := by decide +kernel
theorem dX11_fours_158 : decode cX11_fours 158 = .ok (.iconst 1, 1) := by decide +kernel
theorem dX11_fours_159 : decode cX11_fours 159 = .ok (.iadd, 1) := by decide +kernel
theorem dX11_fours_160 : decode cX11_fours 160 = .ok (.goto 4, 3) := by decide +kernel
theorem dX11_fours_163 : decode cX11_fours 163 = .ok (.iconst 0, 1) := by decide +kernel
theorem dX11_fours_164 : decode cX11_fours 164 = .ok (.istore 9, 2) := by decide +kernel
theorem dX11_fours_166 : decode cX11_fours 166 = .ok (.iload 9, 2) := by decide +kernel
theorem dX11_fours_168 : decode cX11_fours 168 = .ok (.iload_n 3, 1) := by decide +kernel
theorem dX11_fours_169 : decode cX11_fours 169 = .ok (.if_icmp .le 8, 3) := by decide +kernel
theorem dX11_fours_172 : decode cX11_fours 172 = .ok (.iload 9, 2) := by decide +kernel
theorem dX11_fours_174 : decode cX11_fours 174 = .ok (.goto 4, 3) := by decide +kernel
theorem dX11_fours_177 : decode cX11_fours 177 = .ok (.iload_n 3, 1) := by decide +kernel
theorem dX11_fours_178 : decode cX11_fours 178 = .ok (.istore_n 3, 1) := by decide +kernel
theorem dX11_fours_179 : decode cX11_fours 179 = .ok (.iinc 4 1, 3) := by decide +kernel
theorem dX11_fours_182 : decode cX11_fours 182 = .ok (.goto (-152), 3) := by decide +kernel
theorem dX11_fours_185 : decode cX11_fours 185 = .ok (.aload_n 0, 1) := by decide +kernel
theorem dX11_fours_186 : decode cX11_fours 186 = .ok (.getfield 66, 3) := by decide +kernel
theorem dX11_fours_189 : decode cX11_fours 189 = .ok (.iload_n 2, 1) := by decide +kernel
theorem dX11_fours_190 : decode cX11_fours 190 = .ok (.iload_n 3, 1) := by decide +kernel
theorem dX11_fours_191 : decode cX11_fours 191 = .ok (.iastore, 1) := by decide +kernel
theorem dX11_fours_192 : decode cX11_fours 192 = .ok (.iinc 2 1, 3) := by decide +kernel
theorem dX11_fours_195 : decode cX11_fours 195 = .ok (.goto (-180), 3) := by decide +kernel
theorem dX11_fours_198 : decode cX11_fours 198 = .ok (.aload_n 0, 1) := by decide +kernel
theorem dX11_fours_199 : decode cX11_fours 199 = .ok (.getfield 66, 3) := by decide +kernel
theorem dX11_fours_202 : decode cX11_fours 202 = .ok (.iconst 1, 1) := by decide +kernel
theorem dX11_fours_203 : decode cX11_fours 203 = .ok (.aload_n 0, 1) := by decide +kernel
theorem dX11_fours_204 : decode cX11_fours 204 = .ok (.getfield 23, 3) := by decide +kernel
theorem dX11_fours_207 : decode cX11_fours 207 = .ok (.ishl, 1) := by decide +kernel
theorem dX11_fours_208 : decode cX11_fours 208 = .ok (.iconst 1, 1) := by decide +kernel
theorem dX11_fours_209 : decode cX11_fours 209 = .ok (.isub, 1) := by decide +kernel
theorem dX11_fours_210 : decode cX11_fours 210 = .ok (.iaload, 1) := by decide +kernel
theorem dX11_fours_211 : decode cX11_fours 211 = .ok (.istore_n 2, 1) := by decide +kernel
theorem dX11_fours_212 : decode cX11_fours 212 = .ok (.iload_n 1, 1) := by decide +kernel
theorem dX11_fours_213 : decode cX11_fours 213 = .ok (.ifCond .ne 10, 3) := by decide +kernel
theorem dX11_fours_216 : decode cX11_fours 216 = .ok (.iload_n 2, 1) := by decide +kernel
theorem dX11_fours_217 : decode cX11_fours 217 = .ok (.bipush 100, 2) := by decide +kernel
theorem dX11_fours_219 : decode cX11_fours 219 = .ok (.idiv, 1) := by decide +kernel
theorem dX11_fours_220 : decode cX11_fours 220 = .ok (.goto 7, 3) := by decide +kernel
theorem dX11_fours_223 : decode cX11_fours 223 = .ok (.iload_n 2, 1) := by decide +kernel
theorem dX11_fours_224 : decode cX11_fours 224 = .ok (.bipush 100, 2) := by decide +kernel
theorem dX11_fours_226 : decode cX11_fours 226 = .ok (.irem, 1) := by decide +kernel
theorem dX11_fours_227 : decode cX11_fours 227 = .ok (.ireturn, 1) := by decide +kernel
theorem dX11_record_0 : decode cX11_record 0 = .ok (.aload_n 0, 1) := by decide +kernel
theorem dX11_record_1 : decode cX11_record 1 = .ok (.getfield 246, 3) := by decide +kernel
theorem dX11_record_4 : decode cX11_record 4 = .ok (.bipush 40, 2) := by decide +kernel
theorem dX11_record_6 : decode cX11_record 6 = .ok (.if_icmp .ne 6, 3) := by decide +kernel
theorem dX11_record_9 : decode cX11_record 9 = .ok (.bipush (-5), 2) := by decide +kernel
theorem dX11_record_11 : decode cX11_record 11 = .ok (.ireturn, 1) := by decide +kernel
theorem dX11_record_12 : decode cX11_record 12 = .ok (.aload_n 0, 1) := by decide +kernel
theorem dX11_record_13 : decode cX11_record 13 = .ok (.getfield 69, 3) := by decide +kernel
theorem dX11_record_16 : decode cX11_record 16 = .ok (.aload_n 0, 1) := by decide +kernel
theorem dX11_record_17 : decode cX11_record 17 = .ok (.getfield 246, 3) := by decide +kernel
theorem dX11_record_20 : decode cX11_record 20 = .ok (.iload_n 1, 1) := by decide +kernel
theorem dX11_record_21 : decode cX11_record 21 = .ok (.ifCond .eq 7, 3) := by decide +kernel
theorem dX11_record_24 : decode cX11_record 24 = .ok (.iconst 1, 1) := by decide +kernel
theorem dX11_record_25 : decode cX11_record 25 = .ok (.goto 4, 3) := by decide +kernel
theorem dX11_record_28 : decode cX11_record 28 = .ok (.iconst 0, 1) := by decide +kernel
theorem dX11_record_29 : decode cX11_record 29 = .ok (.iastore, 1) := by decide +kernel
theorem dX11_record_30 : decode cX11_record 30 = .ok (.aload_n 0, 1) := by decide +kernel
theorem dX11_record_31 : decode cX11_record 31 = .ok (.dup, 1) := by decide +kernel
theorem dX11_record_32 : decode cX11_record 32 = .ok (.getfield 246, 3) := by decide +kernel
theorem dX11_record_35 : decode cX11_record 35 = .ok (.iconst 1, 1) := by decide +kernel
theorem dX11_record_36 : decode cX11_record 36 = .ok (.iadd, 1) := by decide +kernel
theorem dX11_record_37 : decode cX11_record 37 = .ok (.putfield 246, 3) := by decide +kernel
theorem dX11_record_40 : decode cX11_record 40 = .ok (.aload_n 0, 1) := by decide +kernel
theorem dX11_record_41 : decode cX11_record 41 = .ok (.getfield 246, 3) := by decide +kernel
theorem dX11_record_44 : decode cX11_record 44 = .ok (.ireturn, 1) := by decide +kernel
theorem dX11_burn_0 : decode cX11_burn 0 = .ok (.aload_n 0, 1) := by decide +kernel
theorem dX11_burn_1 : decode cX11_burn 1 = .ok (.getfield 246, 3) := by decide +kernel
theorem dX11_burn_4 : decode cX11_burn 4 = .ok (.istore_n 1, 1) := by decide +kernel
theorem dX11_burn_5 : decode cX11_burn 5 = .ok (.aload_n 0, 1) := by decide +kernel
theorem dX11_burn_6 : decode cX11_burn 6 = .ok (.iconst 0, 1) := by decide +kernel
theorem dX11_burn_7 : decode cX11_burn 7 = .ok (.putfield 246, 3) := by decide +kernel
theorem dX11_burn_10 : decode cX11_burn 10 = .ok (.iload_n 1, 1) := by decide +kernel
theorem dX11_burn_11 : decode cX11_burn 11 = .ok (.ireturn, 1) := by decide +kernel
theorem dX11_stays_0 : decode cX11_stays 0 = .ok (.iload_n 1, 1) := by decide +kernel
theorem dX11_stays_1 : decode cX11_stays 1 = .ok (.iload_n 2, 1) := by decide +kernel
theorem dX11_stays_2 : decode cX11_stays 2 = .ok (.iadd, 1) := by decide +kernel
theorem dX11_stays_3 : decode cX11_stays 3 = .ok (.iconst 2, 1) := by decide +kernel
theorem dX11_stays_4 : decode cX11_stays 4 = .ok (.irem, 1) := by decide +kernel
theorem dX11_stays_5 : decode cX11_stays 5 = .ok (.ifCond .ne 7, 3) := by decide +kernel
theorem dX11_stays_8 : decode cX11_stays 8 = .ok (.iconst 1, 1) := by decide +kernel
theorem dX11_stays_9 : decode cX11_stays 9 = .ok (.goto 4, 3) := by decide +kernel
theorem dX11_stays_12 : decode cX11_stays 12 = .ok (.iconst 0, 1) := by decide +kernel
theorem dX11_stays_13 : decode cX11_stays 13 = .ok (.istore 4, 2) := by decide +kernel
theorem dX11_stays_15 : decode cX11_stays 15 = .ok (.aload_n 0, 1) := by decide +kernel
theorem dX11_stays_16 : decode cX11_stays 16 = .ok (.getfield 72, 3) := by decide +kernel
theorem dX11_stays_19 : decode cX11_stays 19 = .ok (.iconst 2, 1) := by decide +kernel
theorem dX11_stays_20 : decode cX11_stays 20 = .ok (.iload_n 1, 1) := by decide +kernel
theorem dX11_stays_21 : decode cX11_stays 21 = .ok (.imul, 1) := by decide +kernel
theorem dX11_stays_22 : decode cX11_stays 22 = .ok (.iconst 2, 1) := by decide +kernel
theorem dX11_stays_23 : decode cX11_stays 23 = .ok (.iadd, 1) := by decide +kernel
theorem dX11_stays_24 : decode cX11_stays 24 = .ok (.iload_n 2, 1) := by decide +kernel
theorem dX11_stays_25 : decode cX11_stays 25 = .ok (.iadd, 1) := by decide +kernel
theorem dX11_stays_26 : decode cX11_stays 26 = .ok (.iaload, 1) := by decide +kernel
theorem dX11_stays_27 : decode cX11_stays 27 = .ok (.iload 4, 2) := by decide +kernel
theorem dX11_stays_29 : decode cX11_stays 29 = .ok (.aload_n 0, 1) := by decide +kernel
theorem dX11_stays_30 : decode cX11_stays 30 = .ok (.getfield 69, 3) := by decide +kernel
theorem dX11_stays_33 : decode cX11_stays 33 = .ok (.iload_n 1, 1) := by decide +kernel
theorem dX11_stays_34 : decode cX11_stays 34 = .ok (.iaload, 1) := by decide +kernel
theorem dX11_stays_35 : decode cX11_stays 35 = .ok (.iconst 1, 1) := by decide +kernel
theorem dX11_stays_36 : decode cX11_stays 36 = .ok (.if_icmp .ne 7, 3) := by decide +kernel
theorem dX11_stays_39 : decode cX11_stays 39 = .ok (.iconst 1, 1) := by decide +kernel
theorem dX11_stays_40 : decode cX11_stays 40 = .ok (.goto 4, 3) := by decide +kernel
theorem dX11_stays_43 : decode cX11_stays 43 = .ok (.iconst 0, 1) := by decide +kernel
theorem dX11_stays_44 : decode cX11_stays 44 = .ok (.if_icmp .ne 7, 3) := by decide +kernel
theorem dX11_stays_47 : decode cX11_stays 47 = .ok (.iconst 0, 1) := by decide +kernel
theorem dX11_stays_48 : decode cX11_stays 48 = .ok (.goto 7, 3) := by decide +kernel
theorem dX11_stays_51 : decode cX11_stays 51 = .ok (.bipush 100, 2) := by decide +kernel
theorem dX11_stays_53 : decode cX11_stays 53 = .ok (.iload_n 3, 1) := by decide +kernel
theorem dX11_stays_54 : decode cX11_stays 54 = .ok (.imul, 1) := by decide +kernel
theorem dX11_stays_55 : decode cX11_stays 55 = .ok (.iadd, 1) := by decide +kernel
theorem dX11_stays_56 : decode cX11_stays 56 = .ok (.ireturn, 1) := by decide +kernel
theorem dX11_slipped_0 : decode cX11_slipped 0 = .ok (.iload_n 1, 1) := by decide +kernel
theorem dX11_slipped_1 : decode cX11_slipped 1 = .ok (.ifCond .ne 8, 3) := by decide +kernel
theorem dX11_slipped_4 : decode cX11_slipped 4 = .ok (.ldc 232, 2) := by decide +kernel
theorem dX11_slipped_6 : decode cX11_slipped 6 = .ok (.goto 20, 3) := by decide +kernel
theorem dX11_slipped_9 : decode cX11_slipped 9 = .ok (.aload_n 0, 1) := by decide +kernel
theorem dX11_slipped_10 : decode cX11_slipped 10 = .ok (.iload_n 1, 1) := by decide +kernel
theorem dX11_slipped_11 : decode cX11_slipped 11 = .ok (.iconst 1, 1) := by decide +kernel
theorem dX11_slipped_12 : decode cX11_slipped 12 = .ok (.iload_n 2, 1) := by decide +kernel
theorem dX11_slipped_13 : decode cX11_slipped 13 = .ok (.isub, 1) := by decide +kernel
theorem dX11_slipped_14 : decode cX11_slipped 14 = .ok (.iload 4, 2) := by decide +kernel
theorem dX11_slipped_16 : decode cX11_slipped 16 = .ok (.invokevirtual 249, 3) := by decide +kernel
theorem dX11_slipped_19 : decode cX11_slipped 19 = .ok (.bipush 100, 2) := by decide +kernel
theorem dX11_slipped_21 : decode cX11_slipped 21 = .ok (.iload_n 3, 1) := by decide +kernel
theorem dX11_slipped_22 : decode cX11_slipped 22 = .ok (.imul, 1) := by decide +kernel
theorem dX11_slipped_23 : decode cX11_slipped 23 = .ok (.iadd, 1) := by decide +kernel
theorem dX11_slipped_24 : decode cX11_slipped 24 = .ok (.iconst 1, 1) := by decide +kernel
theorem dX11_slipped_25 : decode cX11_slipped 25 = .ok (.iadd, 1) := by decide +kernel
theorem dX11_slipped_26 : decode cX11_slipped 26 = .ok (.ireturn, 1) := by decide +kernel
theorem dX11_slips_0 : decode cX11_slips 0 = .ok (.iload_n 1, 1) := by decide +kernel
theorem dX11_slips_1 : decode cX11_slips 1 = .ok (.i2l, 1) := by decide +kernel
theorem dX11_slips_2 : decode cX11_slips 2 = .ok (.lconst 1, 1) := by decide +kernel
theorem dX11_slips_3 : decode cX11_slips 3 = .ok (.ldc2_w 230, 3) := by decide +kernel
theorem dX11_slips_6 : decode cX11_slips 6 = .ok (.invokestatic 80, 3) := by decide +kernel
theorem dX11_slips_9 : decode cX11_slips 9 = .ok (.ifCond .eq 27, 3) := by decide +kernel
theorem dX11_slips_12 : decode cX11_slips 12 = .ok (.iload_n 2, 1) := by decide +kernel
theorem dX11_slips_13 : decode cX11_slips 13 = .ok (.i2l, 1) := by decide +kernel
theorem dX11_slips_14 : decode cX11_slips 14 = .ok (.lconst 1, 1) := by decide +kernel
theorem dX11_slips_15 : decode cX11_slips 15 = .ok (.ldc2_w 230, 3) := by decide +kernel
theorem dX11_slips_18 : decode cX11_slips 18 = .ok (.invokestatic 80, 3) := by decide +kernel
theorem dX11_slips_21 : decode cX11_slips 21 = .ok (.ifCond .eq 15, 3) := by decide +kernel
theorem dX11_slips_24 : decode cX11_slips 24 = .ok (.iload_n 3, 1) := by decide +kernel
theorem dX11_slips_25 : decode cX11_slips 25 = .ok (.i2l, 1) := by decide +kernel
theorem dX11_slips_26 : decode cX11_slips 26 = .ok (.lconst 0, 1) := by decide +kernel
theorem dX11_slips_27 : decode cX11_slips 27 = .ok (.ldc2_w 252, 3) := by decide +kernel
theorem dX11_slips_30 : decode cX11_slips 30 = .ok (.invokestatic 80, 3) := by decide +kernel
theorem dX11_slips_33 : decode cX11_slips 33 = .ok (.ifCond .ne 6, 3) := by decide +kernel
theorem dX11_slips_36 : decode cX11_slips 36 = .ok (.bipush (-3), 2) := by decide +kernel
theorem dX11_slips_38 : decode cX11_slips 38 = .ok (.ireturn, 1) := by decide +kernel
theorem dX11_slips_39 : decode cX11_slips 39 = .ok (.aload_n 0, 1) := by decide +kernel
theorem dX11_slips_40 : decode cX11_slips 40 = .ok (.getfield 72, 3) := by decide +kernel
theorem dX11_slips_43 : decode cX11_slips 43 = .ok (.iconst 2, 1) := by decide +kernel
theorem dX11_slips_44 : decode cX11_slips 44 = .ok (.aload_n 0, 1) := by decide +kernel
theorem dX11_slips_45 : decode cX11_slips 45 = .ok (.getfield 246, 3) := by decide +kernel
theorem dX11_slips_48 : decode cX11_slips 48 = .ok (.imul, 1) := by decide +kernel
theorem dX11_slips_49 : decode cX11_slips 49 = .ok (.iconst 0, 1) := by decide +kernel
theorem dX11_slips_50 : decode cX11_slips 50 = .ok (.iastore, 1) := by decide +kernel
theorem dX11_slips_51 : decode cX11_slips 51 = .ok (.aload_n 0, 1) := by decide +kernel
theorem dX11_slips_52 : decode cX11_slips 52 = .ok (.getfield 72, 3) := by decide +kernel
theorem dX11_slips_55 : decode cX11_slips 55 = .ok (.iconst 2, 1) := by decide +kernel
theorem dX11_slips_56 : decode cX11_slips 56 = .ok (.aload_n 0, 1) := by decide +kernel
theorem dX11_slips_57 : decode cX11_slips 57 = .ok (.getfield 246, 3) := by decide +kernel
theorem dX11_slips_60 : decode cX11_slips 60 = .ok (.imul, 1) := by decide +kernel
theorem dX11_slips_61 : decode cX11_slips 61 = .ok (.iconst 1, 1) := by decide +kernel
theorem dX11_slips_62 : decode cX11_slips 62 = .ok (.iadd, 1) := by decide +kernel
theorem dX11_slips_63 : decode cX11_slips 63 = .ok (.iconst 0, 1) := by decide +kernel
theorem dX11_slips_64 : decode cX11_slips 64 = .ok (.iastore, 1) := by decide +kernel
theorem dX11_slips_65 : decode cX11_slips 65 = .ok (.aload_n 0, 1) := by decide +kernel
theorem dX11_slips_66 : decode cX11_slips 66 = .ok (.getfield 246, 3) := by decide +kernel
theorem dX11_slips_69 : decode cX11_slips 69 = .ok (.iconst 1, 1) := by decide +kernel
theorem dX11_slips_70 : decode cX11_slips 70 = .ok (.isub, 1) := by decide +kernel
theorem dX11_slips_71 : decode cX11_slips 71 = .ok (.istore 4, 2) := by decide +kernel
theorem dX11_slips_73 : decode cX11_slips 73 = .ok (.iload 4, 2) := by decide +kernel
theorem dX11_slips_75 : decode cX11_slips 75 = .ok (.ifCond .lt 73, 3) := by decide +kernel
theorem dX11_slips_78 : decode cX11_slips 78 = .ok (.iconst 0, 1) := by decide +kernel
theorem dX11_slips_79 : decode cX11_slips 79 = .ok (.istore 5, 2) := by decide +kernel
theorem dX11_slips_81 : decode cX11_slips 81 = .ok (.iload 5, 2) := by decide +kernel
theorem dX11_slips_83 : decode cX11_slips 83 = .ok (.iconst 2, 1) := by decide +kernel
theorem dX11_slips_84 : decode cX11_slips 84 = .ok (.if_icmp .ge 58, 3) := by decide +kernel
theorem dX11_slips_87 : decode cX11_slips 87 = .ok (.aload_n 0, 1) := by decide +kernel
theorem dX11_slips_88 : decode cX11_slips 88 = .ok (.iload 4, 2) := by decide +kernel
theorem dX11_slips_90 : decode cX11_slips 90 = .ok (.iload 5, 2) := by decide +kernel
theorem dX11_slips_92 : decode cX11_slips 92 = .ok (.iload_n 2, 1) := by decide +kernel
theorem dX11_slips_93 : decode cX11_slips 93 = .ok (.invokevirtual 249, 3) := by decide +kernel
theorem dX11_slips_96 : decode cX11_slips 96 = .ok (.istore 6, 2) := by decide +kernel
theorem dX11_slips_98 : decode cX11_slips 98 = .ok (.aload_n 0, 1) := by decide +kernel
theorem dX11_slips_99 : decode cX11_slips 99 = .ok (.iload 4, 2) := by decide +kernel
theorem dX11_slips_101 : decode cX11_slips 101 = .ok (.iload 5, 2) := by decide +kernel
theorem dX11_slips_103 : decode cX11_slips 103 = .ok (.iload_n 1, 1) := by decide +kernel
theorem dX11_slips_104 : decode cX11_slips 104 = .ok (.iload_n 2, 1) := by decide +kernel
theorem dX11_slips_105 : decode cX11_slips 105 = .ok (.invokevirtual 254, 3) := by decide +kernel
theorem dX11_slips_108 : decode cX11_slips 108 = .ok (.istore 7, 2) := by decide +kernel
theorem dX11_slips_110 : decode cX11_slips 110 = .ok (.aload_n 0, 1) := by decide +kernel
theorem dX11_slips_111 : decode cX11_slips 111 = .ok (.getfield 72, 3) := by decide +kernel
theorem dX11_slips_114 : decode cX11_slips 114 = .ok (.iconst 2, 1) := by decide +kernel
theorem dX11_slips_115 : decode cX11_slips 115 = .ok (.iload 4, 2) := by decide +kernel
theorem dX11_slips_117 : decode cX11_slips 117 = .ok (.imul, 1) := by decide +kernel
theorem dX11_slips_118 : decode cX11_slips 118 = .ok (.iload 5, 2) := by decide +kernel
theorem dX11_slips_120 : decode cX11_slips 120 = .ok (.iadd, 1) := by decide +kernel
theorem dX11_slips_121 : decode cX11_slips 121 = .ok (.iload 7, 2) := by decide +kernel
theorem dX11_slips_123 : decode cX11_slips 123 = .ok (.iload 6, 2) := by decide +kernel
theorem dX11_slips_125 : decode cX11_slips 125 = .ok (.if_icmp .ge 8, 3) := by decide +kernel
theorem dX11_slips_128 : decode cX11_slips 128 = .ok (.iload 7, 2) := by decide +kernel
theorem dX11_slips_130 : decode cX11_slips 130 = .ok (.goto 5, 3) := by decide +kernel
theorem dX11_slips_133 : decode cX11_slips 133 = .ok (.iload 6, 2) := by decide +kernel
theorem dX11_slips_135 : decode cX11_slips 135 = .ok (.iastore, 1) := by decide +kernel
theorem dX11_slips_136 : decode cX11_slips 136 = .ok (.iinc 5 1, 3) := by decide +kernel
theorem dX11_slips_139 : decode cX11_slips 139 = .ok (.goto (-58), 3) := by decide +kernel
theorem dX11_slips_142 : decode cX11_slips 142 = .ok (.iinc 4 (-1), 3) := by decide +kernel
theorem dX11_slips_145 : decode cX11_slips 145 = .ok (.goto (-72), 3) := by decide +kernel
theorem dX11_slips_148 : decode cX11_slips 148 = .ok (.iload_n 3, 1) := by decide +kernel
theorem dX11_slips_149 : decode cX11_slips 149 = .ok (.iconst 2, 1) := by decide +kernel
theorem dX11_slips_150 : decode cX11_slips 150 = .ok (.if_icmp .ge 29, 3) := by decide +kernel
theorem dX11_slips_153 : decode cX11_slips 153 = .ok (.iload_n 3, 1) := by decide +kernel
theorem dX11_slips_154 : decode cX11_slips 154 = .ok (.ifCond .ne 15, 3) := by decide +kernel
theorem dX11_slips_157 : decode cX11_slips 157 = .ok (.aload_n 0, 1) := by decide +kernel
theorem dX11_slips_158 : decode cX11_slips 158 = .ok (.getfield 72, 3) := by decide +kernel
theorem dX11_slips_161 : decode cX11_slips 161 = .ok (.iconst 0, 1) := by decide +kernel
theorem dX11_slips_162 : decode cX11_slips 162 = .ok (.iaload, 1) := by decide +kernel
theorem dX11_slips_163 : decode cX11_slips 163 = .ok (.bipush 100, 2) := by decide +kernel
theorem dX11_slips_165 : decode cX11_slips 165 = .ok (.idiv, 1) := by decide +kernel
theorem dX11_slips_166 : decode cX11_slips 166 = .ok (.goto 12, 3) := by decide +kernel
theorem dX11_slips_169 : decode cX11_slips 169 = .ok (.aload_n 0, 1) := by decide +kernel
theorem dX11_slips_170 : decode cX11_slips 170 = .ok (.getfield 72, 3) := by decide +kernel
theorem dX11_slips_173 : decode cX11_slips 173 = .ok (.iconst 0, 1) := by decide +kernel
theorem dX11_slips_174 : decode cX11_slips 174 = .ok (.iaload, 1) := by decide +kernel
theorem dX11_slips_175 : decode cX11_slips 175 = .ok (.bipush 100, 2) := by decide +kernel
theorem dX11_slips_177 : decode cX11_slips 177 = .ok (.irem, 1) := by decide +kernel
theorem dX11_slips_178 : decode cX11_slips 178 = .ok (.ireturn, 1) := by decide +kernel
theorem dX11_slips_179 : decode cX11_slips 179 = .ok (.iconst 0, 1) := by decide +kernel
theorem dX11_slips_180 : decode cX11_slips 180 = .ok (.istore 4, 2) := by decide +kernel
theorem dX11_slips_182 : decode cX11_slips 182 = .ok (.iload 4, 2) := by decide +kernel
theorem dX11_slips_184 : decode cX11_slips 184 = .ok (.aload_n 0, 1) := by decide +kernel
theorem dX11_slips_185 : decode cX11_slips 185 = .ok (.getfield 246, 3) := by decide +kernel
theorem dX11_slips_188 : decode cX11_slips 188 = .ok (.if_icmp .ge 32, 3) := by decide +kernel
theorem dX11_slips_191 : decode cX11_slips 191 = .ok (.aload_n 0, 1) := by decide +kernel
theorem dX11_slips_192 : decode cX11_slips 192 = .ok (.iload 4, 2) := by decide +kernel
theorem dX11_slips_194 : decode cX11_slips 194 = .ok (.iconst 0, 1) := by decide +kernel
theorem dX11_slips_195 : decode cX11_slips 195 = .ok (.iload_n 2, 1) := by decide +kernel
theorem dX11_slips_196 : decode cX11_slips 196 = .ok (.invokevirtual 249, 3) := by decide +kernel
theorem dX11_slips_199 : decode cX11_slips 199 = .ok (.aload_n 0, 1) := by decide +kernel
theorem dX11_slips_200 : decode cX11_slips 200 = .ok (.getfield 72, 3) := by decide +kernel
theorem dX11_slips_203 : decode cX11_slips 203 = .ok (.iconst 2, 1) := by decide +kernel
theorem dX11_slips_204 : decode cX11_slips 204 = .ok (.iload 4, 2) := by decide +kernel
theorem dX11_slips_206 : decode cX11_slips 206 = .ok (.imul, 1) := by decide +kernel
theorem dX11_slips_207 : decode cX11_slips 207 = .ok (.iaload, 1) := by decide +kernel
theorem dX11_slips_208 : decode cX11_slips 208 = .ok (.if_icmp .eq 6, 3) := by decide +kernel
theorem dX11_slips_211 : decode cX11_slips 211 = .ok (.iload 4, 2) := by decide +kernel
theorem dX11_slips_213 : decode cX11_slips 213 = .ok (.ireturn, 1) := by decide +kernel
theorem dX11_slips_214 : decode cX11_slips 214 = .ok (.iinc 4 1, 3) := by decide +kernel
theorem dX11_slips_217 : decode cX11_slips 217 = .ok (.goto (-35), 3) := by decide +kernel
theorem dX11_slips_220 : decode cX11_slips 220 = .ok (.iconst (-1), 1) := by decide +kernel
theorem dX11_slips_221 : decode cX11_slips 221 = .ok (.ireturn, 1) := by decide +kernel
theorem dX11_copy_0 : decode cX11_copy 0 = .ok (.iconst 0, 1) := by decide +kernel
theorem dX11_copy_1 : decode cX11_copy 1 = .ok (.istore_n 3, 1) := by decide +kernel
theorem dX11_copy_2 : decode cX11_copy 2 = .ok (.iload_n 3, 1) := by decide +kernel
theorem dX11_copy_3 : decode cX11_copy 3 = .ok (.bipush 87, 2) := by decide +kernel
theorem dX11_copy_5 : decode cX11_copy 5 = .ok (.if_icmp .ge 31, 3) := by decide +kernel
theorem dX11_copy_8 : decode cX11_copy 8 = .ok (.aload_n 0, 1) := by decide +kernel
theorem dX11_copy_9 : decode cX11_copy 9 = .ok (.getfield 7, 3) := by decide +kernel
theorem dX11_copy_12 : decode cX11_copy 12 = .ok (.bipush 87, 2) := by decide +kernel
theorem dX11_copy_14 : decode cX11_copy 14 = .ok (.iload_n 2, 1) := by decide +kernel
theorem dX11_copy_15 : decode cX11_copy 15 = .ok (.imul, 1) := by decide +kernel
theorem dX11_copy_16 : decode cX11_copy 16 = .ok (.iload_n 3, 1) := by decide +kernel
theorem dX11_copy_17 : decode cX11_copy 17 = .ok (.iadd, 1) := by decide +kernel
theorem dX11_copy_18 : decode cX11_copy 18 = .ok (.aload_n 0, 1) := by decide +kernel
theorem dX11_copy_19 : decode cX11_copy 19 = .ok (.getfield 7, 3) := by decide +kernel
theorem dX11_copy_22 : decode cX11_copy 22 = .ok (.bipush 87, 2) := by decide +kernel
theorem dX11_copy_24 : decode cX11_copy 24 = .ok (.iload_n 1, 1) := by decide +kernel
theorem dX11_copy_25 : decode cX11_copy 25 = .ok (.imul, 1) := by decide +kernel
theorem dX11_copy_26 : decode cX11_copy 26 = .ok (.iload_n 3, 1) := by decide +kernel
theorem dX11_copy_27 : decode cX11_copy 27 = .ok (.iadd, 1) := by decide +kernel
theorem dX11_copy_28 : decode cX11_copy 28 = .ok (.iaload, 1) := by decide +kernel
theorem dX11_copy_29 : decode cX11_copy 29 = .ok (.iastore, 1) := by decide +kernel
theorem dX11_copy_30 : decode cX11_copy 30 = .ok (.iinc 3 1, 3) := by decide +kernel
theorem dX11_copy_33 : decode cX11_copy 33 = .ok (.goto (-31), 3) := by decide +kernel
theorem dX11_copy_36 : decode cX11_copy 36 = .ok (.return_, 1) := by decide +kernel
theorem dX11_keep_0 : decode cX11_keep 0 = .ok (.iload_n 1, 1) := by decide +kernel
theorem dX11_keep_1 : decode cX11_keep 1 = .ok (.i2l, 1) := by decide +kernel
theorem dX11_keep_2 : decode cX11_keep 2 = .ok (.lconst 0, 1) := by decide +kernel
theorem dX11_keep_3 : decode cX11_keep 3 = .ok (.lconst 1, 1) := by decide +kernel
theorem dX11_keep_4 : decode cX11_keep 4 = .ok (.invokestatic 80, 3) := by decide +kernel
theorem dX11_keep_7 : decode cX11_keep 7 = .ok (.ifCond .ne 6, 3) := by decide +kernel
theorem dX11_keep_10 : decode cX11_keep 10 = .ok (.bipush (-2), 2) := by decide +kernel
theorem dX11_keep_12 : decode cX11_keep 12 = .ok (.ireturn, 1) := by decide +kernel
theorem dX11_keep_13 : decode cX11_keep 13 = .ok (.aload_n 0, 1) := by decide +kernel
theorem dX11_keep_14 : decode cX11_keep 14 = .ok (.iconst 0, 1) := by decide +kernel
theorem dX11_keep_15 : decode cX11_keep 15 = .ok (.iconst 1, 1) := by decide +kernel
theorem dX11_keep_16 : decode cX11_keep 16 = .ok (.iload_n 1, 1) := by decide +kernel
theorem dX11_keep_17 : decode cX11_keep 17 = .ok (.iadd, 1) := by decide +kernel
theorem dX11_keep_18 : decode cX11_keep 18 = .ok (.invokevirtual 257, 3) := by decide +kernel
theorem dX11_keep_21 : decode cX11_keep 21 = .ok (.aload_n 0, 1) := by decide +kernel
theorem dX11_keep_22 : decode cX11_keep 22 = .ok (.getfield 13, 3) := by decide +kernel
theorem dX11_keep_25 : decode cX11_keep 25 = .ok (.iload_n 1, 1) := by decide +kernel
theorem dX11_keep_26 : decode cX11_keep 26 = .ok (.iconst 1, 1) := by decide +kernel
theorem dX11_keep_27 : decode cX11_keep 27 = .ok (.bastore, 1) := by decide +kernel
theorem dX11_keep_28 : decode cX11_keep 28 = .ok (.aload_n 0, 1) := by decide +kernel
theorem dX11_keep_29 : decode cX11_keep 29 = .ok (.getfield 7, 3) := by decide +kernel
theorem dX11_keep_32 : decode cX11_keep 32 = .ok (.iconst 0, 1) := by decide +kernel
theorem dX11_keep_33 : decode cX11_keep 33 = .ok (.iaload, 1) := by decide +kernel
theorem dX11_keep_34 : decode cX11_keep 34 = .ok (.ireturn, 1) := by decide +kernel
theorem dX11_back_0 : decode cX11_back 0 = .ok (.iload_n 1, 1) := by decide +kernel
theorem dX11_back_1 : decode cX11_back 1 = .ok (.i2l, 1) := by decide +kernel
theorem dX11_back_2 : decode cX11_back 2 = .ok (.lconst 0, 1) := by decide +kernel
theorem dX11_back_3 : decode cX11_back 3 = .ok (.lconst 1, 1) := by decide +kernel
theorem dX11_back_4 : decode cX11_back 4 = .ok (.invokestatic 80, 3) := by decide +kernel
theorem dX11_back_7 : decode cX11_back 7 = .ok (.ifCond .ne 6, 3) := by decide +kernel
theorem dX11_back_10 : decode cX11_back 10 = .ok (.bipush (-2), 2) := by decide +kernel
theorem dX11_back_12 : decode cX11_back 12 = .ok (.ireturn, 1) := by decide +kernel
theorem dX11_back_13 : decode cX11_back 13 = .ok (.aload_n 0, 1) := by decide +kernel
theorem dX11_back_14 : decode cX11_back 14 = .ok (.getfield 13, 3) := by decide +kernel
theorem dX11_back_17 : decode cX11_back 17 = .ok (.iload_n 1, 1) := by decide +kernel
theorem dX11_back_18 : decode cX11_back 18 = .ok (.baload, 1) := by decide +kernel
theorem dX11_back_19 : decode cX11_back 19 = .ok (.ifCond .ne 6, 3) := by decide +kernel
theorem dX11_back_22 : decode cX11_back 22 = .ok (.bipush (-4), 2) := by decide +kernel
theorem dX11_back_24 : decode cX11_back 24 = .ok (.ireturn, 1) := by decide +kernel
theorem dX11_back_25 : decode cX11_back 25 = .ok (.aload_n 0, 1) := by decide +kernel
theorem dX11_back_26 : decode cX11_back 26 = .ok (.iconst 1, 1) := by decide +kernel
theorem dX11_back_27 : decode cX11_back 27 = .ok (.iload_n 1, 1) := by decide +kernel
theorem dX11_back_28 : decode cX11_back 28 = .ok (.iadd, 1) := by decide +kernel
theorem dX11_back_29 : decode cX11_back 29 = .ok (.iconst 0, 1) := by decide +kernel
theorem dX11_back_30 : decode cX11_back 30 = .ok (.invokevirtual 257, 3) := by decide +kernel
theorem dX11_back_33 : decode cX11_back 33 = .ok (.aload_n 0, 1) := by decide +kernel
theorem dX11_back_34 : decode cX11_back 34 = .ok (.getfield 7, 3) := by decide +kernel
theorem dX11_back_37 : decode cX11_back 37 = .ok (.iconst 0, 1) := by decide +kernel
theorem dX11_back_38 : decode cX11_back 38 = .ok (.iaload, 1) := by decide +kernel
theorem dX11_back_39 : decode cX11_back 39 = .ok (.ireturn, 1) := by decide +kernel
theorem dX11_count_0 : decode cX11_count 0 = .ok (.iload_n 1, 1) := by decide +kernel
theorem dX11_count_1 : decode cX11_count 1 = .ok (.tableswitch 80 0 6 #[43, 48, 53, 58, 63, 70, 75], 43) := by decide +kernel
theorem dX11_count_44 : decode cX11_count 44 = .ok (.aload_n 0, 1) := by decide +kernel
theorem dX11_count_45 : decode cX11_count 45 = .ok (.getfield 23, 3) := by decide +kernel
theorem dX11_count_48 : decode cX11_count 48 = .ok (.ireturn, 1) := by decide +kernel
theorem dX11_count_49 : decode cX11_count 49 = .ok (.aload_n 0, 1) := by decide +kernel
theorem dX11_count_50 : decode cX11_count 50 = .ok (.getfield 27, 3) := by decide +kernel
theorem dX11_count_53 : decode cX11_count 53 = .ok (.ireturn, 1) := by decide +kernel
theorem dX11_count_54 : decode cX11_count 54 = .ok (.aload_n 0, 1) := by decide +kernel
theorem dX11_count_55 : decode cX11_count 55 = .ok (.getfield 150, 3) := by decide +kernel
theorem dX11_count_58 : decode cX11_count 58 = .ok (.ireturn, 1) := by decide +kernel
theorem dX11_count_59 : decode cX11_count 59 = .ok (.aload_n 0, 1) := by decide +kernel
theorem dX11_count_60 : decode cX11_count 60 = .ok (.getfield 39, 3) := by decide +kernel
theorem dX11_count_63 : decode cX11_count 63 = .ok (.ireturn, 1) := by decide +kernel
theorem dX11_count_64 : decode cX11_count 64 = .ok (.aload_n 0, 1) := by decide +kernel
theorem dX11_count_65 : decode cX11_count 65 = .ok (.getfield 7, 3) := by decide +kernel
theorem dX11_count_68 : decode cX11_count 68 = .ok (.iconst 0, 1) := by decide +kernel
theorem dX11_count_69 : decode cX11_count 69 = .ok (.iaload, 1) := by decide +kernel
theorem dX11_count_70 : decode cX11_count 70 = .ok (.ireturn, 1) := by decide +kernel
theorem dX11_count_71 : decode cX11_count 71 = .ok (.aload_n 0, 1) := by decide +kernel
theorem dX11_count_72 : decode cX11_count 72 = .ok (.getfield 246, 3) := by decide +kernel
theorem dX11_count_75 : decode cX11_count 75 = .ok (.ireturn, 1) := by decide +kernel
theorem dX11_count_76 : decode cX11_count 76 = .ok (.aload_n 0, 1) := by decide +kernel
theorem dX11_count_77 : decode cX11_count 77 = .ok (.getfield 84, 3) := by decide +kernel
theorem dX11_count_80 : decode cX11_count 80 = .ok (.ireturn, 1) := by decide +kernel
theorem dX11_count_81 : decode cX11_count 81 = .ok (.iload_n 1, 1) := by decide +kernel
theorem dX11_count_82 : decode cX11_count 82 = .ok (.i2l, 1) := by decide +kernel
theorem dX11_count_83 : decode cX11_count 83 = .ok (.ldc2_w 260, 3) := by decide +kernel
theorem dX11_count_86 : decode cX11_count 86 = .ok (.ldc2_w 228, 3) := by decide +kernel
theorem dX11_count_89 : decode cX11_count 89 = .ok (.invokestatic 80, 3) := by decide +kernel
theorem dX11_count_92 : decode cX11_count 92 = .ok (.ifCond .ne 8, 3) := by decide +kernel
theorem dX11_count_95 : decode cX11_count 95 = .ok (.bipush (-3), 2) := by decide +kernel
theorem dX11_count_97 : decode cX11_count 97 = .ok (.goto 27, 3) := by decide +kernel
theorem dX11_count_100 : decode cX11_count 100 = .ok (.aload_n 0, 1) := by decide +kernel
theorem dX11_count_101 : decode cX11_count 101 = .ok (.iload_n 1, 1) := by decide +kernel
theorem dX11_count_102 : decode cX11_count 102 = .ok (.bipush 7, 2) := by decide +kernel
theorem dX11_count_104 : decode cX11_count 104 = .ok (.isub, 1) := by decide +kernel
theorem dX11_count_105 : decode cX11_count 105 = .ok (.invokevirtual 167, 3) := by decide +kernel
theorem dX11_count_108 : decode cX11_count 108 = .ok (.ifCond .eq 15, 3) := by decide +kernel
theorem dX11_count_111 : decode cX11_count 111 = .ok (.aload_n 0, 1) := by decide +kernel
theorem dX11_count_112 : decode cX11_count 112 = .ok (.getfield 33, 3) := by decide +kernel
theorem dX11_count_115 : decode cX11_count 115 = .ok (.iload_n 1, 1) := by decide +kernel
theorem dX11_count_116 : decode cX11_count 116 = .ok (.bipush 7, 2) := by decide +kernel
theorem dX11_count_118 : decode cX11_count 118 = .ok (.isub, 1) := by decide +kernel
theorem dX11_count_119 : decode cX11_count 119 = .ok (.iaload, 1) := by decide +kernel
theorem dX11_count_120 : decode cX11_count 120 = .ok (.goto 4, 3) := by decide +kernel
theorem dX11_count_123 : decode cX11_count 123 = .ok (.iconst (-1), 1) := by decide +kernel
theorem dX11_count_124 : decode cX11_count 124 = .ok (.ireturn, 1) := by decide +kernel
theorem dL_law_0 : decode cL_law 0 = .ok (.new 7, 3) := by decide +kernel
theorem dL_law_3 : decode cL_law 3 = .ok (.dup, 1) := by decide +kernel
theorem dL_law_4 : decode cL_law 4 = .ok (.invokespecial 9, 3) := by decide +kernel
theorem dL_law_7 : decode cL_law 7 = .ok (.astore_n 1, 1) := by decide +kernel
theorem dL_law_8 : decode cL_law 8 = .ok (.new 10, 3) := by decide +kernel
theorem dL_law_11 : decode cL_law 11 = .ok (.dup, 1) := by decide +kernel
theorem dL_law_12 : decode cL_law 12 = .ok (.invokespecial 12, 3) := by decide +kernel
theorem dL_law_15 : decode cL_law 15 = .ok (.astore_n 2, 1) := by decide +kernel
theorem dL_law_16 : decode cL_law 16 = .ok (.iconst 0, 1) := by decide +kernel
theorem dL_law_17 : decode cL_law 17 = .ok (.istore_n 3, 1) := by decide +kernel
theorem dL_law_18 : decode cL_law 18 = .ok (.iload_n 3, 1) := by decide +kernel
theorem dL_law_19 : decode cL_law 19 = .ok (.aload_n 0, 1) := by decide +kernel
theorem dL_law_20 : decode cL_law 20 = .ok (.arraylength, 1) := by decide +kernel
theorem dL_law_21 : decode cL_law 21 = .ok (.bipush 6, 2) := by decide +kernel
theorem dL_law_23 : decode cL_law 23 = .ok (.isub, 1) := by decide +kernel
theorem dL_law_24 : decode cL_law 24 = .ok (.if_icmp .gt 1097, 3) := by decide +kernel
theorem dL_law_27 : decode cL_law 27 = .ok (.aload_n 0, 1) := by decide +kernel
theorem dL_law_28 : decode cL_law 28 = .ok (.iload_n 3, 1) := by decide +kernel
theorem dL_law_29 : decode cL_law 29 = .ok (.iaload, 1) := by decide +kernel
theorem dL_law_30 : decode cL_law 30 = .ok (.bipush 31, 2) := by decide +kernel
theorem dL_law_32 : decode cL_law 32 = .ok (.iand, 1) := by decide +kernel
theorem dL_law_33 : decode cL_law 33 = .ok (.tableswitch 1082 0 26 #[123, 186, 199, 212, 225, 258, 311, 364, 423, 446, 489, 512, 535, 568, 611, 674, 743, 786, 809, 842, 895, 918, 957, 970, 1013, 1036, 1059], 123) := by decide +kernel
theorem dL_law_156 : decode cL_law 156 = .ok (.aload_n 1, 1) := by decide +kernel
theorem dL_law_157 : decode cL_law 157 = .ok (.aload_n 0, 1) := by decide +kernel
theorem dL_law_158 : decode cL_law 158 = .ok (.iload_n 3, 1) := by decide +kernel
theorem dL_law_159 : decode cL_law 159 = .ok (.iconst 1, 1) := by decide +kernel
theorem dL_law_160 : decode cL_law 160 = .ok (.iadd, 1) := by decide +kernel
theorem dL_law_161 : decode cL_law 161 = .ok (.iaload, 1) := by decide +kernel
theorem dL_law_162 : decode cL_law 162 = .ok (.i2l, 1) := by decide +kernel
theorem dL_law_163 : decode cL_law 163 = .ok (.bipush 32, 2) := by decide +kernel
theorem dL_law_165 : decode cL_law 165 = .ok (.lshl, 1) := by decide +kernel
theorem dL_law_166 : decode cL_law 166 = .ok (.aload_n 0, 1) := by decide +kernel
theorem dL_law_167 : decode cL_law 167 = .ok (.iload_n 3, 1) := by decide +kernel
theorem dL_law_168 : decode cL_law 168 = .ok (.iconst 2, 1) := by decide +kernel
theorem dL_law_169 : decode cL_law 169 = .ok (.iadd, 1) := by decide +kernel
theorem dL_law_170 : decode cL_law 170 = .ok (.iaload, 1) := by decide +kernel
theorem dL_law_171 : decode cL_law 171 = .ok (.i2l, 1) := by decide +kernel
theorem dL_law_172 : decode cL_law 172 = .ok (.ldc2_w 13, 3) := by decide +kernel
theorem dL_law_175 : decode cL_law 175 = .ok (.land, 1) := by decide +kernel
theorem dL_law_176 : decode cL_law 176 = .ok (.lor, 1) := by decide +kernel
theorem dL_law_177 : decode cL_law 177 = .ok (.aload_n 0, 1) := by decide +kernel
theorem dL_law_178 : decode cL_law 178 = .ok (.iload_n 3, 1) := by decide +kernel
theorem dL_law_179 : decode cL_law 179 = .ok (.iconst 3, 1) := by decide +kernel
theorem dL_law_180 : decode cL_law 180 = .ok (.iadd, 1) := by decide +kernel
theorem dL_law_181 : decode cL_law 181 = .ok (.iaload, 1) := by decide +kernel
theorem dL_law_182 : decode cL_law 182 = .ok (.invokevirtual 15, 3) := by decide +kernel
theorem dL_law_185 : decode cL_law 185 = .ok (.aload_n 2, 1) := by decide +kernel
theorem dL_law_186 : decode cL_law 186 = .ok (.aload_n 0, 1) := by decide +kernel
theorem dL_law_187 : decode cL_law 187 = .ok (.iload_n 3, 1) := by decide +kernel
theorem dL_law_188 : decode cL_law 188 = .ok (.iconst 1, 1) := by decide +kernel
theorem dL_law_189 : decode cL_law 189 = .ok (.iadd, 1) := by decide +kernel
theorem dL_law_190 : decode cL_law 190 = .ok (.iaload, 1) := by decide +kernel
theorem dL_law_191 : decode cL_law 191 = .ok (.i2l, 1) := by decide +kernel
theorem dL_law_192 : decode cL_law 192 = .ok (.bipush 32, 2) := by decide +kernel
theorem dL_law_194 : decode cL_law 194 = .ok (.lshl, 1) := by decide +kernel
theorem dL_law_195 : decode cL_law 195 = .ok (.aload_n 0, 1) := by decide +kernel
theorem dL_law_196 : decode cL_law 196 = .ok (.iload_n 3, 1) := by decide +kernel
theorem dL_law_197 : decode cL_law 197 = .ok (.iconst 2, 1) := by decide +kernel
theorem dL_law_198 : decode cL_law 198 = .ok (.iadd, 1) := by decide +kernel
theorem dL_law_199 : decode cL_law 199 = .ok (.iaload, 1) := by decide +kernel
theorem dL_law_200 : decode cL_law 200 = .ok (.i2l, 1) := by decide +kernel
theorem dL_law_201 : decode cL_law 201 = .ok (.ldc2_w 13, 3) := by decide +kernel
theorem dL_law_204 : decode cL_law 204 = .ok (.land, 1) := by decide +kernel
theorem dL_law_205 : decode cL_law 205 = .ok (.lor, 1) := by decide +kernel
theorem dL_law_206 : decode cL_law 206 = .ok (.aload_n 0, 1) := by decide +kernel
theorem dL_law_207 : decode cL_law 207 = .ok (.iload_n 3, 1) := by decide +kernel
theorem dL_law_208 : decode cL_law 208 = .ok (.iconst 3, 1) := by decide +kernel
theorem dL_law_209 : decode cL_law 209 = .ok (.iadd, 1) := by decide +kernel
theorem dL_law_210 : decode cL_law 210 = .ok (.iaload, 1) := by decide +kernel
theorem dL_law_211 : decode cL_law 211 = .ok (.invokevirtual 19, 3) := by decide +kernel
theorem dL_law_214 : decode cL_law 214 = .ok (.if_icmp .eq 901, 3) := by decide +kernel
theorem dL_law_217 : decode cL_law 217 = .ok (.iconst 0, 1) := by decide +kernel
theorem dL_law_218 : decode cL_law 218 = .ok (.ireturn, 1) := by decide +kernel
theorem dL_law_219 : decode cL_law 219 = .ok (.aload_n 1, 1) := by decide +kernel
theorem dL_law_220 : decode cL_law 220 = .ok (.invokevirtual 20, 3) := by decide +kernel
theorem dL_law_223 : decode cL_law 223 = .ok (.aload_n 2, 1) := by decide +kernel
theorem dL_law_224 : decode cL_law 224 = .ok (.invokevirtual 24, 3) := by decide +kernel
theorem dL_law_227 : decode cL_law 227 = .ok (.if_icmp .eq 888, 3) := by decide +kernel
theorem dL_law_230 : decode cL_law 230 = .ok (.iconst 0, 1) := by decide +kernel
theorem dL_law_231 : decode cL_law 231 = .ok (.ireturn, 1) := by decide +kernel
theorem dL_law_232 : decode cL_law 232 = .ok (.aload_n 1, 1) := by decide +kernel
theorem dL_law_233 : decode cL_law 233 = .ok (.invokevirtual 25, 3) := by decide +kernel
theorem dL_law_236 : decode cL_law 236 = .ok (.aload_n 2, 1) := by decide +kernel
theorem dL_law_237 : decode cL_law 237 = .ok (.invokevirtual 28, 3) := by decide +kernel
theorem dL_law_240 : decode cL_law 240 = .ok (.if_icmp .eq 875, 3) := by decide +kernel
theorem dL_law_243 : decode cL_law 243 = .ok (.iconst 0, 1) := by decide +kernel
theorem dL_law_244 : decode cL_law 244 = .ok (.ireturn, 1) := by decide +kernel
theorem dL_law_245 : decode cL_law 245 = .ok (.aload_n 1, 1) := by decide +kernel
theorem dL_law_246 : decode cL_law 246 = .ok (.invokevirtual 29, 3) := by decide +kernel
theorem dL_law_249 : decode cL_law 249 = .ok (.aload_n 2, 1) := by decide +kernel
theorem dL_law_250 : decode cL_law 250 = .ok (.invokevirtual 32, 3) := by decide +kernel
theorem dL_law_253 : decode cL_law 253 = .ok (.if_icmp .eq 862, 3) := by decide +kernel
theorem dL_law_256 : decode cL_law 256 = .ok (.iconst 0, 1) := by decide +kernel
theorem dL_law_257 : decode cL_law 257 = .ok (.ireturn, 1) := by decide +kernel
theorem dL_law_258 : decode cL_law 258 = .ok (.aload_n 1, 1) := by decide +kernel
theorem dL_law_259 : decode cL_law 259 = .ok (.aload_n 0, 1) := by decide +kernel
theorem dL_law_260 : decode cL_law 260 = .ok (.iload_n 3, 1) := by decide +kernel
theorem dL_law_261 : decode cL_law 261 = .ok (.iconst 1, 1) := by decide +kernel
theorem dL_law_262 : decode cL_law 262 = .ok (.iadd, 1) := by decide +kernel
theorem dL_law_263 : decode cL_law 263 = .ok (.iaload, 1) := by decide +kernel
theorem dL_law_264 : decode cL_law 264 = .ok (.aload_n 0, 1) := by decide +kernel
theorem dL_law_265 : decode cL_law 265 = .ok (.iload_n 3, 1) := by decide +kernel
theorem dL_law_266 : decode cL_law 266 = .ok (.iconst 2, 1) := by decide +kernel
theorem dL_law_267 : decode cL_law 267 = .ok (.iadd, 1) := by decide +kernel
theorem dL_law_268 : decode cL_law 268 = .ok (.iaload, 1) := by decide +kernel
theorem dL_law_269 : decode cL_law 269 = .ok (.invokevirtual 33, 3) := by decide +kernel
theorem dL_law_272 : decode cL_law 272 = .ok (.aload_n 2, 1) := by decide +kernel
theorem dL_law_273 : decode cL_law 273 = .ok (.aload_n 0, 1) := by decide +kernel
theorem dL_law_274 : decode cL_law 274 = .ok (.iload_n 3, 1) := by decide +kernel
theorem dL_law_275 : decode cL_law 275 = .ok (.iconst 1, 1) := by decide +kernel
theorem dL_law_276 : decode cL_law 276 = .ok (.iadd, 1) := by decide +kernel
theorem dL_law_277 : decode cL_law 277 = .ok (.iaload, 1) := by decide +kernel
theorem dL_law_278 : decode cL_law 278 = .ok (.aload_n 0, 1) := by decide +kernel
theorem dL_law_279 : decode cL_law 279 = .ok (.iload_n 3, 1) := by decide +kernel
theorem dL_law_280 : decode cL_law 280 = .ok (.iconst 2, 1) := by decide +kernel
theorem dL_law_281 : decode cL_law 281 = .ok (.iadd, 1) := by decide +kernel
theorem dL_law_282 : decode cL_law 282 = .ok (.iaload, 1) := by decide +kernel
theorem dL_law_283 : decode cL_law 283 = .ok (.invokevirtual 37, 3) := by decide +kernel
theorem dL_law_286 : decode cL_law 286 = .ok (.if_icmp .eq 829, 3) := by decide +kernel
theorem dL_law_289 : decode cL_law 289 = .ok (.iconst 0, 1) := by decide +kernel
theorem dL_law_290 : decode cL_law 290 = .ok (.ireturn, 1) := by decide +kernel
theorem dL_law_291 : decode cL_law 291 = .ok (.aload_n 1, 1) := by decide +kernel
theorem dL_law_292 : decode cL_law 292 = .ok (.aload_n 0, 1) := by decide +kernel
theorem dL_law_293 : decode cL_law 293 = .ok (.iload_n 3, 1) := by decide +kernel
theorem dL_law_294 : decode cL_law 294 = .ok (.iconst 1, 1) := by decide +kernel
theorem dL_law_295 : decode cL_law 295 = .ok (.iadd, 1) := by decide +kernel
theorem dL_law_296 : decode cL_law 296 = .ok (.iaload, 1) := by decide +kernel
theorem dL_law_297 : decode cL_law 297 = .ok (.aload_n 0, 1) := by decide +kernel
theorem dL_law_298 : decode cL_law 298 = .ok (.iload_n 3, 1) := by decide +kernel
theorem dL_law_299 : decode cL_law 299 = .ok (.iconst 2, 1) := by decide +kernel
theorem dL_law_300 : decode cL_law 300 = .ok (.iadd, 1) := by decide +kernel
theorem dL_law_301 : decode cL_law 301 = .ok (.iaload, 1) := by decide +kernel
theorem dL_law_302 : decode cL_law 302 = .ok (.aload_n 0, 1) := by decide +kernel
theorem dL_law_303 : decode cL_law 303 = .ok (.iload_n 3, 1) := by decide +kernel
theorem dL_law_304 : decode cL_law 304 = .ok (.iconst 3, 1) := by decide +kernel
theorem dL_law_305 : decode cL_law 305 = .ok (.iadd, 1) := by decide +kernel
theorem dL_law_306 : decode cL_law 306 = .ok (.iaload, 1) := by decide +kernel
theorem dL_law_307 : decode cL_law 307 = .ok (.aload_n 0, 1) := by decide +kernel
theorem dL_law_308 : decode cL_law 308 = .ok (.iload_n 3, 1) := by decide +kernel
theorem dL_law_309 : decode cL_law 309 = .ok (.iconst 4, 1) := by decide +kernel
theorem dL_law_310 : decode cL_law 310 = .ok (.iadd, 1) := by decide +kernel
theorem dL_law_311 : decode cL_law 311 = .ok (.iaload, 1) := by decide +kernel
theorem dL_law_312 : decode cL_law 312 = .ok (.invokevirtual 38, 3) := by decide +kernel
theorem dL_law_315 : decode cL_law 315 = .ok (.aload_n 2, 1) := by decide +kernel
theorem dL_law_316 : decode cL_law 316 = .ok (.aload_n 0, 1) := by decide +kernel
theorem dL_law_317 : decode cL_law 317 = .ok (.iload_n 3, 1) := by decide +kernel
theorem dL_law_318 : decode cL_law 318 = .ok (.iconst 1, 1) := by decide +kernel
theorem dL_law_319 : decode cL_law 319 = .ok (.iadd, 1) := by decide +kernel
theorem dL_law_320 : decode cL_law 320 = .ok (.iaload, 1) := by decide +kernel
theorem dL_law_321 : decode cL_law 321 = .ok (.aload_n 0, 1) := by decide +kernel
theorem dL_law_322 : decode cL_law 322 = .ok (.iload_n 3, 1) := by decide +kernel
theorem dL_law_323 : decode cL_law 323 = .ok (.iconst 2, 1) := by decide +kernel
theorem dL_law_324 : decode cL_law 324 = .ok (.iadd, 1) := by decide +kernel
theorem dL_law_325 : decode cL_law 325 = .ok (.iaload, 1) := by decide +kernel
theorem dL_law_326 : decode cL_law 326 = .ok (.aload_n 0, 1) := by decide +kernel
theorem dL_law_327 : decode cL_law 327 = .ok (.iload_n 3, 1) := by decide +kernel
theorem dL_law_328 : decode cL_law 328 = .ok (.iconst 3, 1) := by decide +kernel
theorem dL_law_329 : decode cL_law 329 = .ok (.iadd, 1) := by decide +kernel
theorem dL_law_330 : decode cL_law 330 = .ok (.iaload, 1) := by decide +kernel
theorem dL_law_331 : decode cL_law 331 = .ok (.aload_n 0, 1) := by decide +kernel
theorem dL_law_332 : decode cL_law 332 = .ok (.iload_n 3, 1) := by decide +kernel
theorem dL_law_333 : decode cL_law 333 = .ok (.iconst 4, 1) := by decide +kernel
theorem dL_law_334 : decode cL_law 334 = .ok (.iadd, 1) := by decide +kernel
theorem dL_law_335 : decode cL_law 335 = .ok (.iaload, 1) := by decide +kernel
theorem dL_law_336 : decode cL_law 336 = .ok (.invokevirtual 42, 3) := by decide +kernel
theorem dL_law_339 : decode cL_law 339 = .ok (.if_icmp .eq 776, 3) := by decide +kernel
theorem dL_law_342 : decode cL_law 342 = .ok (.iconst 0, 1) := by decide +kernel
theorem dL_law_343 : decode cL_law 343 = .ok (.ireturn, 1) := by decide +kernel
theorem dL_law_344 : decode cL_law 344 = .ok (.aload_n 1, 1) := by decide +kernel
theorem dL_law_345 : decode cL_law 345 = .ok (.aload_n 0, 1) := by decide +kernel
theorem dL_law_346 : decode cL_law 346 = .ok (.iload_n 3, 1) := by decide +kernel
theorem dL_law_347 : decode cL_law 347 = .ok (.iconst 1, 1) := by decide +kernel
theorem dL_law_348 : decode cL_law 348 = .ok (.iadd, 1) := by decide +kernel
theorem dL_law_349 : decode cL_law 349 = .ok (.iaload, 1) := by decide +kernel
theorem dL_law_350 : decode cL_law 350 = .ok (.aload_n 0, 1) := by decide +kernel
theorem dL_law_351 : decode cL_law 351 = .ok (.iload_n 3, 1) := by decide +kernel
theorem dL_law_352 : decode cL_law 352 = .ok (.iconst 2, 1) := by decide +kernel
theorem dL_law_353 : decode cL_law 353 = .ok (.iadd, 1) := by decide +kernel
theorem dL_law_354 : decode cL_law 354 = .ok (.iaload, 1) := by decide +kernel
theorem dL_law_355 : decode cL_law 355 = .ok (.aload_n 0, 1) := by decide +kernel
theorem dL_law_356 : decode cL_law 356 = .ok (.iload_n 3, 1) := by decide +kernel
theorem dL_law_357 : decode cL_law 357 = .ok (.iconst 3, 1) := by decide +kernel
theorem dL_law_358 : decode cL_law 358 = .ok (.iadd, 1) := by decide +kernel
theorem dL_law_359 : decode cL_law 359 = .ok (.iaload, 1) := by decide +kernel
theorem dL_law_360 : decode cL_law 360 = .ok (.aload_n 0, 1) := by decide +kernel
theorem dL_law_361 : decode cL_law 361 = .ok (.iload_n 3, 1) := by decide +kernel
theorem dL_law_362 : decode cL_law 362 = .ok (.iconst 4, 1) := by decide +kernel
theorem dL_law_363 : decode cL_law 363 = .ok (.iadd, 1) := by decide +kernel
theorem dL_law_364 : decode cL_law 364 = .ok (.iaload, 1) := by decide +kernel
theorem dL_law_365 : decode cL_law 365 = .ok (.invokevirtual 43, 3) := by decide +kernel
theorem dL_law_368 : decode cL_law 368 = .ok (.aload_n 2, 1) := by decide +kernel
theorem dL_law_369 : decode cL_law 369 = .ok (.aload_n 0, 1) := by decide +kernel
theorem dL_law_370 : decode cL_law 370 = .ok (.iload_n 3, 1) := by decide +kernel
theorem dL_law_371 : decode cL_law 371 = .ok (.iconst 1, 1) := by decide +kernel
theorem dL_law_372 : decode cL_law 372 = .ok (.iadd, 1) := by decide +kernel
theorem dL_law_373 : decode cL_law 373 = .ok (.iaload, 1) := by decide +kernel
theorem dL_law_374 : decode cL_law 374 = .ok (.aload_n 0, 1) := by decide +kernel
theorem dL_law_375 : decode cL_law 375 = .ok (.iload_n 3, 1) := by decide +kernel
theorem dL_law_376 : decode cL_law 376 = .ok (.iconst 2, 1) := by decide +kernel
theorem dL_law_377 : decode cL_law 377 = .ok (.iadd, 1) := by decide +kernel
theorem dL_law_378 : decode cL_law 378 = .ok (.iaload, 1) := by decide +kernel
theorem dL_law_379 : decode cL_law 379 = .ok (.aload_n 0, 1) := by decide +kernel
theorem dL_law_380 : decode cL_law 380 = .ok (.iload_n 3, 1) := by decide +kernel
theorem dL_law_381 : decode cL_law 381 = .ok (.iconst 3, 1) := by decide +kernel
theorem dL_law_382 : decode cL_law 382 = .ok (.iadd, 1) := by decide +kernel
theorem dL_law_383 : decode cL_law 383 = .ok (.iaload, 1) := by decide +kernel
theorem dL_law_384 : decode cL_law 384 = .ok (.aload_n 0, 1) := by decide +kernel
theorem dL_law_385 : decode cL_law 385 = .ok (.iload_n 3, 1) := by decide +kernel
theorem dL_law_386 : decode cL_law 386 = .ok (.iconst 4, 1) := by decide +kernel
theorem dL_law_387 : decode cL_law 387 = .ok (.iadd, 1) := by decide +kernel
theorem dL_law_388 : decode cL_law 388 = .ok (.iaload, 1) := by decide +kernel
theorem dL_law_389 : decode cL_law 389 = .ok (.invokevirtual 46, 3) := by decide +kernel
theorem dL_law_392 : decode cL_law 392 = .ok (.if_icmp .eq 723, 3) := by decide +kernel
theorem dL_law_395 : decode cL_law 395 = .ok (.iconst 0, 1) := by decide +kernel
theorem dL_law_396 : decode cL_law 396 = .ok (.ireturn, 1) := by decide +kernel
theorem dL_law_397 : decode cL_law 397 = .ok (.aload_n 1, 1) := by decide +kernel
theorem dL_law_398 : decode cL_law 398 = .ok (.aload_n 0, 1) := by decide +kernel
theorem dL_law_399 : decode cL_law 399 = .ok (.iload_n 3, 1) := by decide +kernel
theorem dL_law_400 : decode cL_law 400 = .ok (.iconst 1, 1) := by decide +kernel
theorem dL_law_401 : decode cL_law 401 = .ok (.iadd, 1) := by decide +kernel
theorem dL_law_402 : decode cL_law 402 = .ok (.iaload, 1) := by decide +kernel
theorem dL_law_403 : decode cL_law 403 = .ok (.aload_n 0, 1) := by decide +kernel
theorem dL_law_404 : decode cL_law 404 = .ok (.iload_n 3, 1) := by decide +kernel
theorem dL_law_405 : decode cL_law 405 = .ok (.iconst 2, 1) := by decide +kernel
theorem dL_law_406 : decode cL_law 406 = .ok (.iadd, 1) := by decide +kernel
theorem dL_law_407 : decode cL_law 407 = .ok (.iaload, 1) := by decide +kernel
theorem dL_law_408 : decode cL_law 408 = .ok (.aload_n 0, 1) := by decide +kernel
theorem dL_law_409 : decode cL_law 409 = .ok (.iload_n 3, 1) := by decide +kernel
theorem dL_law_410 : decode cL_law 410 = .ok (.iconst 3, 1) := by decide +kernel
theorem dL_law_411 : decode cL_law 411 = .ok (.iadd, 1) := by decide +kernel
theorem dL_law_412 : decode cL_law 412 = .ok (.iaload, 1) := by decide +kernel
theorem dL_law_413 : decode cL_law 413 = .ok (.ifCond .eq 7, 3) := by decide +kernel
theorem dL_law_416 : decode cL_law 416 = .ok (.iconst 1, 1) := by decide +kernel
theorem dL_law_417 : decode cL_law 417 = .ok (.goto 4, 3) := by decide +kernel
theorem dL_law_420 : decode cL_law 420 = .ok (.iconst 0, 1) := by decide +kernel
theorem dL_law_421 : decode cL_law 421 = .ok (.invokevirtual 47, 3) := by decide +kernel
theorem dL_law_424 : decode cL_law 424 = .ok (.aload_n 2, 1) := by decide +kernel
theorem dL_law_425 : decode cL_law 425 = .ok (.aload_n 0, 1) := by decide +kernel
theorem dL_law_426 : decode cL_law 426 = .ok (.iload_n 3, 1) := by decide +kernel
theorem dL_law_427 : decode cL_law 427 = .ok (.iconst 1, 1) := by decide +kernel
theorem dL_law_428 : decode cL_law 428 = .ok (.iadd, 1) := by decide +kernel
theorem dL_law_429 : decode cL_law 429 = .ok (.iaload, 1) := by decide +kernel
theorem dL_law_430 : decode cL_law 430 = .ok (.aload_n 0, 1) := by decide +kernel
theorem dL_law_431 : decode cL_law 431 = .ok (.iload_n 3, 1) := by decide +kernel
theorem dL_law_432 : decode cL_law 432 = .ok (.iconst 2, 1) := by decide +kernel
theorem dL_law_433 : decode cL_law 433 = .ok (.iadd, 1) := by decide +kernel
theorem dL_law_434 : decode cL_law 434 = .ok (.iaload, 1) := by decide +kernel
theorem dL_law_435 : decode cL_law 435 = .ok (.aload_n 0, 1) := by decide +kernel
theorem dL_law_436 : decode cL_law 436 = .ok (.iload_n 3, 1) := by decide +kernel
theorem dL_law_437 : decode cL_law 437 = .ok (.iconst 3, 1) := by decide +kernel
theorem dL_law_438 : decode cL_law 438 = .ok (.iadd, 1) := by decide +kernel
theorem dL_law_439 : decode cL_law 439 = .ok (.iaload, 1) := by decide +kernel
theorem dL_law_440 : decode cL_law 440 = .ok (.ifCond .eq 7, 3) := by decide +kernel
theorem dL_law_443 : decode cL_law 443 = .ok (.iconst 1, 1) := by decide +kernel
theorem dL_law_444 : decode cL_law 444 = .ok (.goto 4, 3) := by decide +kernel
theorem dL_law_447 : decode cL_law 447 = .ok (.iconst 0, 1) := by decide +kernel
theorem dL_law_448 : decode cL_law 448 = .ok (.invokevirtual 51, 3) := by decide +kernel
theorem dL_law_451 : decode cL_law 451 = .ok (.if_icmp .eq 664, 3) := by decide +kernel
theorem dL_law_454 : decode cL_law 454 = .ok (.iconst 0, 1) := by decide +kernel
theorem dL_law_455 : decode cL_law 455 = .ok (.ireturn, 1) := by decide +kernel
theorem dL_law_456 : decode cL_law 456 = .ok (.aload_n 1, 1) := by decide +kernel
theorem dL_law_457 : decode cL_law 457 = .ok (.aload_n 0, 1) := by decide +kernel
theorem dL_law_458 : decode cL_law 458 = .ok (.iload_n 3, 1) := by decide +kernel
theorem dL_law_459 : decode cL_law 459 = .ok (.iconst 1, 1) := by decide +kernel
theorem dL_law_460 : decode cL_law 460 = .ok (.iadd, 1) := by decide +kernel
theorem dL_law_461 : decode cL_law 461 = .ok (.iaload, 1) := by decide +kernel
theorem dL_law_462 : decode cL_law 462 = .ok (.invokevirtual 52, 3) := by decide +kernel
theorem dL_law_465 : decode cL_law 465 = .ok (.aload_n 2, 1) := by decide +kernel
theorem dL_law_466 : decode cL_law 466 = .ok (.aload_n 0, 1) := by decide +kernel
theorem dL_law_467 : decode cL_law 467 = .ok (.iload_n 3, 1) := by decide +kernel
theorem dL_law_468 : decode cL_law 468 = .ok (.iconst 1, 1) := by decide +kernel
theorem dL_law_469 : decode cL_law 469 = .ok (.iadd, 1) := by decide +kernel
theorem dL_law_470 : decode cL_law 470 = .ok (.iaload, 1) := by decide +kernel
theorem dL_law_471 : decode cL_law 471 = .ok (.invokevirtual 56, 3) := by decide +kernel
theorem dL_law_474 : decode cL_law 474 = .ok (.if_icmp .eq 641, 3) := by decide +kernel
theorem dL_law_477 : decode cL_law 477 = .ok (.iconst 0, 1) := by decide +kernel
theorem dL_law_478 : decode cL_law 478 = .ok (.ireturn, 1) := by decide +kernel
theorem dL_law_479 : decode cL_law 479 = .ok (.aload_n 1, 1) := by decide +kernel
theorem dL_law_480 : decode cL_law 480 = .ok (.aload_n 0, 1) := by decide +kernel
theorem dL_law_481 : decode cL_law 481 = .ok (.iload_n 3, 1) := by decide +kernel
theorem dL_law_482 : decode cL_law 482 = .ok (.iconst 1, 1) := by decide +kernel
theorem dL_law_483 : decode cL_law 483 = .ok (.iadd, 1) := by decide +kernel
theorem dL_law_484 : decode cL_law 484 = .ok (.iaload, 1) := by decide +kernel
theorem dL_law_485 : decode cL_law 485 = .ok (.aload_n 0, 1) := by decide +kernel
theorem dL_law_486 : decode cL_law 486 = .ok (.iload_n 3, 1) := by decide +kernel
theorem dL_law_487 : decode cL_law 487 = .ok (.iconst 2, 1) := by decide +kernel
theorem dL_law_488 : decode cL_law 488 = .ok (.iadd, 1) := by decide +kernel
theorem dL_law_489 : decode cL_law 489 = .ok (.iaload, 1) := by decide +kernel
theorem dL_law_490 : decode cL_law 490 = .ok (.aload_n 0, 1) := by decide +kernel
theorem dL_law_491 : decode cL_law 491 = .ok (.iload_n 3, 1) := by decide +kernel
theorem dL_law_492 : decode cL_law 492 = .ok (.iconst 3, 1) := by decide +kernel
theorem dL_law_493 : decode cL_law 493 = .ok (.iadd, 1) := by decide +kernel
theorem dL_law_494 : decode cL_law 494 = .ok (.iaload, 1) := by decide +kernel
theorem dL_law_495 : decode cL_law 495 = .ok (.invokevirtual 57, 3) := by decide +kernel
theorem dL_law_498 : decode cL_law 498 = .ok (.aload_n 2, 1) := by decide +kernel
theorem dL_law_499 : decode cL_law 499 = .ok (.aload_n 0, 1) := by decide +kernel
theorem dL_law_500 : decode cL_law 500 = .ok (.iload_n 3, 1) := by decide +kernel
theorem dL_law_501 : decode cL_law 501 = .ok (.iconst 1, 1) := by decide +kernel
theorem dL_law_502 : decode cL_law 502 = .ok (.iadd, 1) := by decide +kernel
theorem dL_law_503 : decode cL_law 503 = .ok (.iaload, 1) := by decide +kernel
theorem dL_law_504 : decode cL_law 504 = .ok (.aload_n 0, 1) := by decide +kernel
theorem dL_law_505 : decode cL_law 505 = .ok (.iload_n 3, 1) := by decide +kernel
theorem dL_law_506 : decode cL_law 506 = .ok (.iconst 2, 1) := by decide +kernel
theorem dL_law_507 : decode cL_law 507 = .ok (.iadd, 1) := by decide +kernel
theorem dL_law_508 : decode cL_law 508 = .ok (.iaload, 1) := by decide +kernel
theorem dL_law_509 : decode cL_law 509 = .ok (.aload_n 0, 1) := by decide +kernel
theorem dL_law_510 : decode cL_law 510 = .ok (.iload_n 3, 1) := by decide +kernel
theorem dL_law_511 : decode cL_law 511 = .ok (.iconst 3, 1) := by decide +kernel
theorem dL_law_512 : decode cL_law 512 = .ok (.iadd, 1) := by decide +kernel
theorem dL_law_513 : decode cL_law 513 = .ok (.iaload, 1) := by decide +kernel
theorem dL_law_514 : decode cL_law 514 = .ok (.invokevirtual 61, 3) := by decide +kernel
theorem dL_law_517 : decode cL_law 517 = .ok (.if_icmp .eq 598, 3) := by decide +kernel
theorem dL_law_520 : decode cL_law 520 = .ok (.iconst 0, 1) := by decide +kernel
theorem dL_law_521 : decode cL_law 521 = .ok (.ireturn, 1) := by decide +kernel
theorem dL_law_522 : decode cL_law 522 = .ok (.aload_n 1, 1) := by decide +kernel
theorem dL_law_523 : decode cL_law 523 = .ok (.aload_n 0, 1) := by decide +kernel
theorem dL_law_524 : decode cL_law 524 = .ok (.iload_n 3, 1) := by decide +kernel
theorem dL_law_525 : decode cL_law 525 = .ok (.iconst 1, 1) := by decide +kernel
theorem dL_law_526 : decode cL_law 526 = .ok (.iadd, 1) := by decide +kernel
theorem dL_law_527 : decode cL_law 527 = .ok (.iaload, 1) := by decide +kernel
theorem dL_law_528 : decode cL_law 528 = .ok (.invokevirtual 62, 3) := by decide +kernel
theorem dL_law_531 : decode cL_law 531 = .ok (.aload_n 2, 1) := by decide +kernel
theorem dL_law_532 : decode cL_law 532 = .ok (.aload_n 0, 1) := by decide +kernel
theorem dL_law_533 : decode cL_law 533 = .ok (.iload_n 3, 1) := by decide +kernel
theorem dL_law_534 : decode cL_law 534 = .ok (.iconst 1, 1) := by decide +kernel
theorem dL_law_535 : decode cL_law 535 = .ok (.iadd, 1) := by decide +kernel
theorem dL_law_536 : decode cL_law 536 = .ok (.iaload, 1) := by decide +kernel
theorem dL_law_537 : decode cL_law 537 = .ok (.invokevirtual 65, 3) := by decide +kernel
theorem dL_law_540 : decode cL_law 540 = .ok (.if_icmp .eq 575, 3) := by decide +kernel
theorem dL_law_543 : decode cL_law 543 = .ok (.iconst 0, 1) := by decide +kernel
theorem dL_law_544 : decode cL_law 544 = .ok (.ireturn, 1) := by decide +kernel
theorem dL_law_545 : decode cL_law 545 = .ok (.aload_n 1, 1) := by decide +kernel
theorem dL_law_546 : decode cL_law 546 = .ok (.aload_n 0, 1) := by decide +kernel
theorem dL_law_547 : decode cL_law 547 = .ok (.iload_n 3, 1) := by decide +kernel
theorem dL_law_548 : decode cL_law 548 = .ok (.iconst 1, 1) := by decide +kernel
theorem dL_law_549 : decode cL_law 549 = .ok (.iadd, 1) := by decide +kernel
theorem dL_law_550 : decode cL_law 550 = .ok (.iaload, 1) := by decide +kernel
theorem dL_law_551 : decode cL_law 551 = .ok (.invokevirtual 66, 3) := by decide +kernel
theorem dL_law_554 : decode cL_law 554 = .ok (.aload_n 2, 1) := by decide +kernel
theorem dL_law_555 : decode cL_law 555 = .ok (.aload_n 0, 1) := by decide +kernel
theorem dL_law_556 : decode cL_law 556 = .ok (.iload_n 3, 1) := by decide +kernel
theorem dL_law_557 : decode cL_law 557 = .ok (.iconst 1, 1) := by decide +kernel
theorem dL_law_558 : decode cL_law 558 = .ok (.iadd, 1) := by decide +kernel
theorem dL_law_559 : decode cL_law 559 = .ok (.iaload, 1) := by decide +kernel
theorem dL_law_560 : decode cL_law 560 = .ok (.invokevirtual 69, 3) := by decide +kernel
theorem dL_law_563 : decode cL_law 563 = .ok (.if_icmp .eq 552, 3) := by decide +kernel
theorem dL_law_566 : decode cL_law 566 = .ok (.iconst 0, 1) := by decide +kernel
theorem dL_law_567 : decode cL_law 567 = .ok (.ireturn, 1) := by decide +kernel
theorem dL_law_568 : decode cL_law 568 = .ok (.aload_n 1, 1) := by decide +kernel
theorem dL_law_569 : decode cL_law 569 = .ok (.aload_n 0, 1) := by decide +kernel
theorem dL_law_570 : decode cL_law 570 = .ok (.iload_n 3, 1) := by decide +kernel
theorem dL_law_571 : decode cL_law 571 = .ok (.iconst 1, 1) := by decide +kernel
theorem dL_law_572 : decode cL_law 572 = .ok (.iadd, 1) := by decide +kernel
theorem dL_law_573 : decode cL_law 573 = .ok (.iaload, 1) := by decide +kernel
theorem dL_law_574 : decode cL_law 574 = .ok (.aload_n 0, 1) := by decide +kernel
theorem dL_law_575 : decode cL_law 575 = .ok (.iload_n 3, 1) := by decide +kernel
theorem dL_law_576 : decode cL_law 576 = .ok (.iconst 2, 1) := by decide +kernel
theorem dL_law_577 : decode cL_law 577 = .ok (.iadd, 1) := by decide +kernel
theorem dL_law_578 : decode cL_law 578 = .ok (.iaload, 1) := by decide +kernel
theorem dL_law_579 : decode cL_law 579 = .ok (.invokevirtual 70, 3) := by decide +kernel
theorem dL_law_582 : decode cL_law 582 = .ok (.aload_n 2, 1) := by decide +kernel
theorem dL_law_583 : decode cL_law 583 = .ok (.aload_n 0, 1) := by decide +kernel
theorem dL_law_584 : decode cL_law 584 = .ok (.iload_n 3, 1) := by decide +kernel
theorem dL_law_585 : decode cL_law 585 = .ok (.iconst 1, 1) := by decide +kernel
theorem dL_law_586 : decode cL_law 586 = .ok (.iadd, 1) := by decide +kernel
theorem dL_law_587 : decode cL_law 587 = .ok (.iaload, 1) := by decide +kernel
theorem dL_law_588 : decode cL_law 588 = .ok (.aload_n 0, 1) := by decide +kernel
theorem dL_law_589 : decode cL_law 589 = .ok (.iload_n 3, 1) := by decide +kernel
theorem dL_law_590 : decode cL_law 590 = .ok (.iconst 2, 1) := by decide +kernel
theorem dL_law_591 : decode cL_law 591 = .ok (.iadd, 1) := by decide +kernel
theorem dL_law_592 : decode cL_law 592 = .ok (.iaload, 1) := by decide +kernel
theorem dL_law_593 : decode cL_law 593 = .ok (.invokevirtual 73, 3) := by decide +kernel
theorem dL_law_596 : decode cL_law 596 = .ok (.if_icmp .eq 519, 3) := by decide +kernel
theorem dL_law_599 : decode cL_law 599 = .ok (.iconst 0, 1) := by decide +kernel
theorem dL_law_600 : decode cL_law 600 = .ok (.ireturn, 1) := by decide +kernel
theorem dL_law_601 : decode cL_law 601 = .ok (.aload_n 1, 1) := by decide +kernel
theorem dL_law_602 : decode cL_law 602 = .ok (.aload_n 0, 1) := by decide +kernel
theorem dL_law_603 : decode cL_law 603 = .ok (.iload_n 3, 1) := by decide +kernel
theorem dL_law_604 : decode cL_law 604 = .ok (.iconst 1, 1) := by decide +kernel
theorem dL_law_605 : decode cL_law 605 = .ok (.iadd, 1) := by decide +kernel
theorem dL_law_606 : decode cL_law 606 = .ok (.iaload, 1) := by decide +kernel
theorem dL_law_607 : decode cL_law 607 = .ok (.aload_n 0, 1) := by decide +kernel
theorem dL_law_608 : decode cL_law 608 = .ok (.iload_n 3, 1) := by decide +kernel
theorem dL_law_609 : decode cL_law 609 = .ok (.iconst 2, 1) := by decide +kernel
theorem dL_law_610 : decode cL_law 610 = .ok (.iadd, 1) := by decide +kernel
theorem dL_law_611 : decode cL_law 611 = .ok (.iaload, 1) := by decide +kernel
theorem dL_law_612 : decode cL_law 612 = .ok (.aload_n 0, 1) := by decide +kernel
theorem dL_law_613 : decode cL_law 613 = .ok (.iload_n 3, 1) := by decide +kernel
theorem dL_law_614 : decode cL_law 614 = .ok (.iconst 3, 1) := by decide +kernel
theorem dL_law_615 : decode cL_law 615 = .ok (.iadd, 1) := by decide +kernel
theorem dL_law_616 : decode cL_law 616 = .ok (.iaload, 1) := by decide +kernel
theorem dL_law_617 : decode cL_law 617 = .ok (.invokevirtual 74, 3) := by decide +kernel
theorem dL_law_620 : decode cL_law 620 = .ok (.aload_n 2, 1) := by decide +kernel
theorem dL_law_621 : decode cL_law 621 = .ok (.aload_n 0, 1) := by decide +kernel
theorem dL_law_622 : decode cL_law 622 = .ok (.iload_n 3, 1) := by decide +kernel
theorem dL_law_623 : decode cL_law 623 = .ok (.iconst 1, 1) := by decide +kernel
theorem dL_law_624 : decode cL_law 624 = .ok (.iadd, 1) := by decide +kernel
theorem dL_law_625 : decode cL_law 625 = .ok (.iaload, 1) := by decide +kernel
theorem dL_law_626 : decode cL_law 626 = .ok (.aload_n 0, 1) := by decide +kernel
theorem dL_law_627 : decode cL_law 627 = .ok (.iload_n 3, 1) := by decide +kernel
theorem dL_law_628 : decode cL_law 628 = .ok (.iconst 2, 1) := by decide +kernel
theorem dL_law_629 : decode cL_law 629 = .ok (.iadd, 1) := by decide +kernel
theorem dL_law_630 : decode cL_law 630 = .ok (.iaload, 1) := by decide +kernel
theorem dL_law_631 : decode cL_law 631 = .ok (.aload_n 0, 1) := by decide +kernel
theorem dL_law_632 : decode cL_law 632 = .ok (.iload_n 3, 1) := by decide +kernel
theorem dL_law_633 : decode cL_law 633 = .ok (.iconst 3, 1) := by decide +kernel
theorem dL_law_634 : decode cL_law 634 = .ok (.iadd, 1) := by decide +kernel
theorem dL_law_635 : decode cL_law 635 = .ok (.iaload, 1) := by decide +kernel
theorem dL_law_636 : decode cL_law 636 = .ok (.invokevirtual 77, 3) := by decide +kernel
theorem dL_law_639 : decode cL_law 639 = .ok (.if_icmp .eq 476, 3) := by decide +kernel
theorem dL_law_642 : decode cL_law 642 = .ok (.iconst 0, 1) := by decide +kernel
theorem dL_law_643 : decode cL_law 643 = .ok (.ireturn, 1) := by decide +kernel
theorem dL_law_644 : decode cL_law 644 = .ok (.aload_n 1, 1) := by decide +kernel
theorem dL_law_645 : decode cL_law 645 = .ok (.aload_n 0, 1) := by decide +kernel
theorem dL_law_646 : decode cL_law 646 = .ok (.iload_n 3, 1) := by decide +kernel
theorem dL_law_647 : decode cL_law 647 = .ok (.iconst 1, 1) := by decide +kernel
theorem dL_law_648 : decode cL_law 648 = .ok (.iadd, 1) := by decide +kernel
theorem dL_law_649 : decode cL_law 649 = .ok (.iaload, 1) := by decide +kernel
theorem dL_law_650 : decode cL_law 650 = .ok (.aload_n 0, 1) := by decide +kernel
theorem dL_law_651 : decode cL_law 651 = .ok (.iload_n 3, 1) := by decide +kernel
theorem dL_law_652 : decode cL_law 652 = .ok (.iconst 2, 1) := by decide +kernel
theorem dL_law_653 : decode cL_law 653 = .ok (.iadd, 1) := by decide +kernel
theorem dL_law_654 : decode cL_law 654 = .ok (.iaload, 1) := by decide +kernel
theorem dL_law_655 : decode cL_law 655 = .ok (.aload_n 0, 1) := by decide +kernel
theorem dL_law_656 : decode cL_law 656 = .ok (.iload_n 3, 1) := by decide +kernel
theorem dL_law_657 : decode cL_law 657 = .ok (.iconst 3, 1) := by decide +kernel
theorem dL_law_658 : decode cL_law 658 = .ok (.iadd, 1) := by decide +kernel
theorem dL_law_659 : decode cL_law 659 = .ok (.iaload, 1) := by decide +kernel
theorem dL_law_660 : decode cL_law 660 = .ok (.aload_n 0, 1) := by decide +kernel
theorem dL_law_661 : decode cL_law 661 = .ok (.iload_n 3, 1) := by decide +kernel
theorem dL_law_662 : decode cL_law 662 = .ok (.iconst 4, 1) := by decide +kernel
theorem dL_law_663 : decode cL_law 663 = .ok (.iadd, 1) := by decide +kernel
theorem dL_law_664 : decode cL_law 664 = .ok (.iaload, 1) := by decide +kernel
theorem dL_law_665 : decode cL_law 665 = .ok (.aload_n 0, 1) := by decide +kernel
theorem dL_law_666 : decode cL_law 666 = .ok (.iload_n 3, 1) := by decide +kernel
theorem dL_law_667 : decode cL_law 667 = .ok (.iconst 5, 1) := by decide +kernel
theorem dL_law_668 : decode cL_law 668 = .ok (.iadd, 1) := by decide +kernel
theorem dL_law_669 : decode cL_law 669 = .ok (.iaload, 1) := by decide +kernel
theorem dL_law_670 : decode cL_law 670 = .ok (.invokevirtual 78, 3) := by decide +kernel
theorem dL_law_673 : decode cL_law 673 = .ok (.aload_n 2, 1) := by decide +kernel
theorem dL_law_674 : decode cL_law 674 = .ok (.aload_n 0, 1) := by decide +kernel
theorem dL_law_675 : decode cL_law 675 = .ok (.iload_n 3, 1) := by decide +kernel
theorem dL_law_676 : decode cL_law 676 = .ok (.iconst 1, 1) := by decide +kernel
theorem dL_law_677 : decode cL_law 677 = .ok (.iadd, 1) := by decide +kernel
theorem dL_law_678 : decode cL_law 678 = .ok (.iaload, 1) := by decide +kernel
theorem dL_law_679 : decode cL_law 679 = .ok (.aload_n 0, 1) := by decide +kernel
theorem dL_law_680 : decode cL_law 680 = .ok (.iload_n 3, 1) := by decide +kernel
theorem dL_law_681 : decode cL_law 681 = .ok (.iconst 2, 1) := by decide +kernel
theorem dL_law_682 : decode cL_law 682 = .ok (.iadd, 1) := by decide +kernel
theorem dL_law_683 : decode cL_law 683 = .ok (.iaload, 1) := by decide +kernel
theorem dL_law_684 : decode cL_law 684 = .ok (.aload_n 0, 1) := by decide +kernel
theorem dL_law_685 : decode cL_law 685 = .ok (.iload_n 3, 1) := by decide +kernel
theorem dL_law_686 : decode cL_law 686 = .ok (.iconst 3, 1) := by decide +kernel
theorem dL_law_687 : decode cL_law 687 = .ok (.iadd, 1) := by decide +kernel
theorem dL_law_688 : decode cL_law 688 = .ok (.iaload, 1) := by decide +kernel
theorem dL_law_689 : decode cL_law 689 = .ok (.aload_n 0, 1) := by decide +kernel
theorem dL_law_690 : decode cL_law 690 = .ok (.iload_n 3, 1) := by decide +kernel
theorem dL_law_691 : decode cL_law 691 = .ok (.iconst 4, 1) := by decide +kernel
theorem dL_law_692 : decode cL_law 692 = .ok (.iadd, 1) := by decide +kernel
theorem dL_law_693 : decode cL_law 693 = .ok (.iaload, 1) := by decide +kernel
theorem dL_law_694 : decode cL_law 694 = .ok (.aload_n 0, 1) := by decide +kernel
theorem dL_law_695 : decode cL_law 695 = .ok (.iload_n 3, 1) := by decide +kernel
theorem dL_law_696 : decode cL_law 696 = .ok (.iconst 5, 1) := by decide +kernel
theorem dL_law_697 : decode cL_law 697 = .ok (.iadd, 1) := by decide +kernel
theorem dL_law_698 : decode cL_law 698 = .ok (.iaload, 1) := by decide +kernel
theorem dL_law_699 : decode cL_law 699 = .ok (.invokevirtual 82, 3) := by decide +kernel
theorem dL_law_702 : decode cL_law 702 = .ok (.if_icmp .eq 413, 3) := by decide +kernel
theorem dL_law_705 : decode cL_law 705 = .ok (.iconst 0, 1) := by decide +kernel
theorem dL_law_706 : decode cL_law 706 = .ok (.ireturn, 1) := by decide +kernel
theorem dL_law_707 : decode cL_law 707 = .ok (.aload_n 1, 1) := by decide +kernel
theorem dL_law_708 : decode cL_law 708 = .ok (.aload_n 0, 1) := by decide +kernel
theorem dL_law_709 : decode cL_law 709 = .ok (.iload_n 3, 1) := by decide +kernel
theorem dL_law_710 : decode cL_law 710 = .ok (.iconst 1, 1) := by decide +kernel
theorem dL_law_711 : decode cL_law 711 = .ok (.iadd, 1) := by decide +kernel
theorem dL_law_712 : decode cL_law 712 = .ok (.iaload, 1) := by decide +kernel
theorem dL_law_713 : decode cL_law 713 = .ok (.aload_n 0, 1) := by decide +kernel
theorem dL_law_714 : decode cL_law 714 = .ok (.iload_n 3, 1) := by decide +kernel
theorem dL_law_715 : decode cL_law 715 = .ok (.iconst 2, 1) := by decide +kernel
theorem dL_law_716 : decode cL_law 716 = .ok (.iadd, 1) := by decide +kernel
theorem dL_law_717 : decode cL_law 717 = .ok (.iaload, 1) := by decide +kernel
theorem dL_law_718 : decode cL_law 718 = .ok (.aload_n 0, 1) := by decide +kernel
theorem dL_law_719 : decode cL_law 719 = .ok (.iload_n 3, 1) := by decide +kernel
theorem dL_law_720 : decode cL_law 720 = .ok (.iconst 3, 1) := by decide +kernel
theorem dL_law_721 : decode cL_law 721 = .ok (.iadd, 1) := by decide +kernel
theorem dL_law_722 : decode cL_law 722 = .ok (.iaload, 1) := by decide +kernel
theorem dL_law_723 : decode cL_law 723 = .ok (.aload_n 0, 1) := by decide +kernel
theorem dL_law_724 : decode cL_law 724 = .ok (.iload_n 3, 1) := by decide +kernel
theorem dL_law_725 : decode cL_law 725 = .ok (.iconst 4, 1) := by decide +kernel
theorem dL_law_726 : decode cL_law 726 = .ok (.iadd, 1) := by decide +kernel
theorem dL_law_727 : decode cL_law 727 = .ok (.iaload, 1) := by decide +kernel
theorem dL_law_728 : decode cL_law 728 = .ok (.ifCond .eq 7, 3) := by decide +kernel
theorem dL_law_731 : decode cL_law 731 = .ok (.iconst 1, 1) := by decide +kernel
theorem dL_law_732 : decode cL_law 732 = .ok (.goto 4, 3) := by decide +kernel
theorem dL_law_735 : decode cL_law 735 = .ok (.iconst 0, 1) := by decide +kernel
theorem dL_law_736 : decode cL_law 736 = .ok (.invokevirtual 83, 3) := by decide +kernel
theorem dL_law_739 : decode cL_law 739 = .ok (.aload_n 2, 1) := by decide +kernel
theorem dL_law_740 : decode cL_law 740 = .ok (.aload_n 0, 1) := by decide +kernel
theorem dL_law_741 : decode cL_law 741 = .ok (.iload_n 3, 1) := by decide +kernel
theorem dL_law_742 : decode cL_law 742 = .ok (.iconst 1, 1) := by decide +kernel
theorem dL_law_743 : decode cL_law 743 = .ok (.iadd, 1) := by decide +kernel
theorem dL_law_744 : decode cL_law 744 = .ok (.iaload, 1) := by decide +kernel
theorem dL_law_745 : decode cL_law 745 = .ok (.aload_n 0, 1) := by decide +kernel
theorem dL_law_746 : decode cL_law 746 = .ok (.iload_n 3, 1) := by decide +kernel
theorem dL_law_747 : decode cL_law 747 = .ok (.iconst 2, 1) := by decide +kernel
theorem dL_law_748 : decode cL_law 748 = .ok (.iadd, 1) := by decide +kernel
theorem dL_law_749 : decode cL_law 749 = .ok (.iaload, 1) := by decide +kernel
theorem dL_law_750 : decode cL_law 750 = .ok (.aload_n 0, 1) := by decide +kernel
theorem dL_law_751 : decode cL_law 751 = .ok (.iload_n 3, 1) := by decide +kernel
theorem dL_law_752 : decode cL_law 752 = .ok (.iconst 3, 1) := by decide +kernel
theorem dL_law_753 : decode cL_law 753 = .ok (.iadd, 1) := by decide +kernel
theorem dL_law_754 : decode cL_law 754 = .ok (.iaload, 1) := by decide +kernel
theorem dL_law_755 : decode cL_law 755 = .ok (.aload_n 0, 1) := by decide +kernel
theorem dL_law_756 : decode cL_law 756 = .ok (.iload_n 3, 1) := by decide +kernel
theorem dL_law_757 : decode cL_law 757 = .ok (.iconst 4, 1) := by decide +kernel
theorem dL_law_758 : decode cL_law 758 = .ok (.iadd, 1) := by decide +kernel
theorem dL_law_759 : decode cL_law 759 = .ok (.iaload, 1) := by decide +kernel
theorem dL_law_760 : decode cL_law 760 = .ok (.ifCond .eq 7, 3) := by decide +kernel
theorem dL_law_763 : decode cL_law 763 = .ok (.iconst 1, 1) := by decide +kernel
theorem dL_law_764 : decode cL_law 764 = .ok (.goto 4, 3) := by decide +kernel
theorem dL_law_767 : decode cL_law 767 = .ok (.iconst 0, 1) := by decide +kernel
theorem dL_law_768 : decode cL_law 768 = .ok (.invokevirtual 87, 3) := by decide +kernel
theorem dL_law_771 : decode cL_law 771 = .ok (.if_icmp .eq 344, 3) := by decide +kernel
theorem dL_law_774 : decode cL_law 774 = .ok (.iconst 0, 1) := by decide +kernel
theorem dL_law_775 : decode cL_law 775 = .ok (.ireturn, 1) := by decide +kernel
theorem dL_law_776 : decode cL_law 776 = .ok (.aload_n 1, 1) := by decide +kernel
theorem dL_law_777 : decode cL_law 777 = .ok (.aload_n 0, 1) := by decide +kernel
theorem dL_law_778 : decode cL_law 778 = .ok (.iload_n 3, 1) := by decide +kernel
theorem dL_law_779 : decode cL_law 779 = .ok (.iconst 1, 1) := by decide +kernel
theorem dL_law_780 : decode cL_law 780 = .ok (.iadd, 1) := by decide +kernel
theorem dL_law_781 : decode cL_law 781 = .ok (.iaload, 1) := by decide +kernel
theorem dL_law_782 : decode cL_law 782 = .ok (.aload_n 0, 1) := by decide +kernel
theorem dL_law_783 : decode cL_law 783 = .ok (.iload_n 3, 1) := by decide +kernel
theorem dL_law_784 : decode cL_law 784 = .ok (.iconst 2, 1) := by decide +kernel
theorem dL_law_785 : decode cL_law 785 = .ok (.iadd, 1) := by decide +kernel
theorem dL_law_786 : decode cL_law 786 = .ok (.iaload, 1) := by decide +kernel
theorem dL_law_787 : decode cL_law 787 = .ok (.aload_n 0, 1) := by decide +kernel
theorem dL_law_788 : decode cL_law 788 = .ok (.iload_n 3, 1) := by decide +kernel
theorem dL_law_789 : decode cL_law 789 = .ok (.iconst 3, 1) := by decide +kernel
theorem dL_law_790 : decode cL_law 790 = .ok (.iadd, 1) := by decide +kernel
theorem dL_law_791 : decode cL_law 791 = .ok (.iaload, 1) := by decide +kernel
theorem dL_law_792 : decode cL_law 792 = .ok (.invokevirtual 88, 3) := by decide +kernel
theorem dL_law_795 : decode cL_law 795 = .ok (.aload_n 2, 1) := by decide +kernel
theorem dL_law_796 : decode cL_law 796 = .ok (.aload_n 0, 1) := by decide +kernel
theorem dL_law_797 : decode cL_law 797 = .ok (.iload_n 3, 1) := by decide +kernel
theorem dL_law_798 : decode cL_law 798 = .ok (.iconst 1, 1) := by decide +kernel
theorem dL_law_799 : decode cL_law 799 = .ok (.iadd, 1) := by decide +kernel
theorem dL_law_800 : decode cL_law 800 = .ok (.iaload, 1) := by decide +kernel
theorem dL_law_801 : decode cL_law 801 = .ok (.aload_n 0, 1) := by decide +kernel
theorem dL_law_802 : decode cL_law 802 = .ok (.iload_n 3, 1) := by decide +kernel
theorem dL_law_803 : decode cL_law 803 = .ok (.iconst 2, 1) := by decide +kernel
theorem dL_law_804 : decode cL_law 804 = .ok (.iadd, 1) := by decide +kernel
theorem dL_law_805 : decode cL_law 805 = .ok (.iaload, 1) := by decide +kernel
theorem dL_law_806 : decode cL_law 806 = .ok (.aload_n 0, 1) := by decide +kernel
theorem dL_law_807 : decode cL_law 807 = .ok (.iload_n 3, 1) := by decide +kernel
theorem dL_law_808 : decode cL_law 808 = .ok (.iconst 3, 1) := by decide +kernel
theorem dL_law_809 : decode cL_law 809 = .ok (.iadd, 1) := by decide +kernel
theorem dL_law_810 : decode cL_law 810 = .ok (.iaload, 1) := by decide +kernel
theorem dL_law_811 : decode cL_law 811 = .ok (.invokevirtual 91, 3) := by decide +kernel
theorem dL_law_814 : decode cL_law 814 = .ok (.if_icmp .eq 301, 3) := by decide +kernel
theorem dL_law_817 : decode cL_law 817 = .ok (.iconst 0, 1) := by decide +kernel
theorem dL_law_818 : decode cL_law 818 = .ok (.ireturn, 1) := by decide +kernel
theorem dL_law_819 : decode cL_law 819 = .ok (.aload_n 1, 1) := by decide +kernel
theorem dL_law_820 : decode cL_law 820 = .ok (.aload_n 0, 1) := by decide +kernel
theorem dL_law_821 : decode cL_law 821 = .ok (.iload_n 3, 1) := by decide +kernel
theorem dL_law_822 : decode cL_law 822 = .ok (.iconst 1, 1) := by decide +kernel
theorem dL_law_823 : decode cL_law 823 = .ok (.iadd, 1) := by decide +kernel
theorem dL_law_824 : decode cL_law 824 = .ok (.iaload, 1) := by decide +kernel
theorem dL_law_825 : decode cL_law 825 = .ok (.invokevirtual 92, 3) := by decide +kernel
theorem dL_law_828 : decode cL_law 828 = .ok (.aload_n 2, 1) := by decide +kernel
theorem dL_law_829 : decode cL_law 829 = .ok (.aload_n 0, 1) := by decide +kernel
theorem dL_law_830 : decode cL_law 830 = .ok (.iload_n 3, 1) := by decide +kernel
theorem dL_law_831 : decode cL_law 831 = .ok (.iconst 1, 1) := by decide +kernel
theorem dL_law_832 : decode cL_law 832 = .ok (.iadd, 1) := by decide +kernel
theorem dL_law_833 : decode cL_law 833 = .ok (.iaload, 1) := by decide +kernel
theorem dL_law_834 : decode cL_law 834 = .ok (.invokevirtual 95, 3) := by decide +kernel
theorem dL_law_837 : decode cL_law 837 = .ok (.if_icmp .eq 278, 3) := by decide +kernel
theorem dL_law_840 : decode cL_law 840 = .ok (.iconst 0, 1) := by decide +kernel
theorem dL_law_841 : decode cL_law 841 = .ok (.ireturn, 1) := by decide +kernel
theorem dL_law_842 : decode cL_law 842 = .ok (.aload_n 1, 1) := by decide +kernel
theorem dL_law_843 : decode cL_law 843 = .ok (.aload_n 0, 1) := by decide +kernel
theorem dL_law_844 : decode cL_law 844 = .ok (.iload_n 3, 1) := by decide +kernel
theorem dL_law_845 : decode cL_law 845 = .ok (.iconst 1, 1) := by decide +kernel
theorem dL_law_846 : decode cL_law 846 = .ok (.iadd, 1) := by decide +kernel
theorem dL_law_847 : decode cL_law 847 = .ok (.iaload, 1) := by decide +kernel
theorem dL_law_848 : decode cL_law 848 = .ok (.aload_n 0, 1) := by decide +kernel
theorem dL_law_849 : decode cL_law 849 = .ok (.iload_n 3, 1) := by decide +kernel
theorem dL_law_850 : decode cL_law 850 = .ok (.iconst 2, 1) := by decide +kernel
theorem dL_law_851 : decode cL_law 851 = .ok (.iadd, 1) := by decide +kernel
theorem dL_law_852 : decode cL_law 852 = .ok (.iaload, 1) := by decide +kernel
theorem dL_law_853 : decode cL_law 853 = .ok (.invokevirtual 96, 3) := by decide +kernel
theorem dL_law_856 : decode cL_law 856 = .ok (.aload_n 2, 1) := by decide +kernel
theorem dL_law_857 : decode cL_law 857 = .ok (.aload_n 0, 1) := by decide +kernel
theorem dL_law_858 : decode cL_law 858 = .ok (.iload_n 3, 1) := by decide +kernel
theorem dL_law_859 : decode cL_law 859 = .ok (.iconst 1, 1) := by decide +kernel
theorem dL_law_860 : decode cL_law 860 = .ok (.iadd, 1) := by decide +kernel
theorem dL_law_861 : decode cL_law 861 = .ok (.iaload, 1) := by decide +kernel
theorem dL_law_862 : decode cL_law 862 = .ok (.aload_n 0, 1) := by decide +kernel
theorem dL_law_863 : decode cL_law 863 = .ok (.iload_n 3, 1) := by decide +kernel
theorem dL_law_864 : decode cL_law 864 = .ok (.iconst 2, 1) := by decide +kernel
theorem dL_law_865 : decode cL_law 865 = .ok (.iadd, 1) := by decide +kernel
theorem dL_law_866 : decode cL_law 866 = .ok (.iaload, 1) := by decide +kernel
theorem dL_law_867 : decode cL_law 867 = .ok (.invokevirtual 99, 3) := by decide +kernel
theorem dL_law_870 : decode cL_law 870 = .ok (.if_icmp .eq 245, 3) := by decide +kernel
theorem dL_law_873 : decode cL_law 873 = .ok (.iconst 0, 1) := by decide +kernel
theorem dL_law_874 : decode cL_law 874 = .ok (.ireturn, 1) := by decide +kernel
theorem dL_law_875 : decode cL_law 875 = .ok (.aload_n 1, 1) := by decide +kernel
theorem dL_law_876 : decode cL_law 876 = .ok (.aload_n 0, 1) := by decide +kernel
theorem dL_law_877 : decode cL_law 877 = .ok (.iload_n 3, 1) := by decide +kernel
theorem dL_law_878 : decode cL_law 878 = .ok (.iconst 1, 1) := by decide +kernel
theorem dL_law_879 : decode cL_law 879 = .ok (.iadd, 1) := by decide +kernel
theorem dL_law_880 : decode cL_law 880 = .ok (.iaload, 1) := by decide +kernel
theorem dL_law_881 : decode cL_law 881 = .ok (.aload_n 0, 1) := by decide +kernel
theorem dL_law_882 : decode cL_law 882 = .ok (.iload_n 3, 1) := by decide +kernel
theorem dL_law_883 : decode cL_law 883 = .ok (.iconst 2, 1) := by decide +kernel
theorem dL_law_884 : decode cL_law 884 = .ok (.iadd, 1) := by decide +kernel
theorem dL_law_885 : decode cL_law 885 = .ok (.iaload, 1) := by decide +kernel
theorem dL_law_886 : decode cL_law 886 = .ok (.aload_n 0, 1) := by decide +kernel
theorem dL_law_887 : decode cL_law 887 = .ok (.iload_n 3, 1) := by decide +kernel
theorem dL_law_888 : decode cL_law 888 = .ok (.iconst 3, 1) := by decide +kernel
theorem dL_law_889 : decode cL_law 889 = .ok (.iadd, 1) := by decide +kernel
theorem dL_law_890 : decode cL_law 890 = .ok (.iaload, 1) := by decide +kernel
theorem dL_law_891 : decode cL_law 891 = .ok (.aload_n 0, 1) := by decide +kernel
theorem dL_law_892 : decode cL_law 892 = .ok (.iload_n 3, 1) := by decide +kernel
theorem dL_law_893 : decode cL_law 893 = .ok (.iconst 4, 1) := by decide +kernel
theorem dL_law_894 : decode cL_law 894 = .ok (.iadd, 1) := by decide +kernel
theorem dL_law_895 : decode cL_law 895 = .ok (.iaload, 1) := by decide +kernel
theorem dL_law_896 : decode cL_law 896 = .ok (.invokevirtual 100, 3) := by decide +kernel
theorem dL_law_899 : decode cL_law 899 = .ok (.aload_n 2, 1) := by decide +kernel
theorem dL_law_900 : decode cL_law 900 = .ok (.aload_n 0, 1) := by decide +kernel
theorem dL_law_901 : decode cL_law 901 = .ok (.iload_n 3, 1) := by decide +kernel
theorem dL_law_902 : decode cL_law 902 = .ok (.iconst 1, 1) := by decide +kernel
theorem dL_law_903 : decode cL_law 903 = .ok (.iadd, 1) := by decide +kernel
theorem dL_law_904 : decode cL_law 904 = .ok (.iaload, 1) := by decide +kernel
theorem dL_law_905 : decode cL_law 905 = .ok (.aload_n 0, 1) := by decide +kernel
theorem dL_law_906 : decode cL_law 906 = .ok (.iload_n 3, 1) := by decide +kernel
theorem dL_law_907 : decode cL_law 907 = .ok (.iconst 2, 1) := by decide +kernel
theorem dL_law_908 : decode cL_law 908 = .ok (.iadd, 1) := by decide +kernel
theorem dL_law_909 : decode cL_law 909 = .ok (.iaload, 1) := by decide +kernel
theorem dL_law_910 : decode cL_law 910 = .ok (.aload_n 0, 1) := by decide +kernel
theorem dL_law_911 : decode cL_law 911 = .ok (.iload_n 3, 1) := by decide +kernel
theorem dL_law_912 : decode cL_law 912 = .ok (.iconst 3, 1) := by decide +kernel
theorem dL_law_913 : decode cL_law 913 = .ok (.iadd, 1) := by decide +kernel
theorem dL_law_914 : decode cL_law 914 = .ok (.iaload, 1) := by decide +kernel
theorem dL_law_915 : decode cL_law 915 = .ok (.aload_n 0, 1) := by decide +kernel
theorem dL_law_916 : decode cL_law 916 = .ok (.iload_n 3, 1) := by decide +kernel
theorem dL_law_917 : decode cL_law 917 = .ok (.iconst 4, 1) := by decide +kernel
theorem dL_law_918 : decode cL_law 918 = .ok (.iadd, 1) := by decide +kernel
theorem dL_law_919 : decode cL_law 919 = .ok (.iaload, 1) := by decide +kernel
theorem dL_law_920 : decode cL_law 920 = .ok (.invokevirtual 103, 3) := by decide +kernel
theorem dL_law_923 : decode cL_law 923 = .ok (.if_icmp .eq 192, 3) := by decide +kernel
theorem dL_law_926 : decode cL_law 926 = .ok (.iconst 0, 1) := by decide +kernel
theorem dL_law_927 : decode cL_law 927 = .ok (.ireturn, 1) := by decide +kernel
theorem dL_law_928 : decode cL_law 928 = .ok (.aload_n 1, 1) := by decide +kernel
theorem dL_law_929 : decode cL_law 929 = .ok (.aload_n 0, 1) := by decide +kernel
theorem dL_law_930 : decode cL_law 930 = .ok (.iload_n 3, 1) := by decide +kernel
theorem dL_law_931 : decode cL_law 931 = .ok (.iconst 1, 1) := by decide +kernel
theorem dL_law_932 : decode cL_law 932 = .ok (.iadd, 1) := by decide +kernel
theorem dL_law_933 : decode cL_law 933 = .ok (.iaload, 1) := by decide +kernel
theorem dL_law_934 : decode cL_law 934 = .ok (.invokevirtual 104, 3) := by decide +kernel
theorem dL_law_937 : decode cL_law 937 = .ok (.aload_n 2, 1) := by decide +kernel
theorem dL_law_938 : decode cL_law 938 = .ok (.aload_n 0, 1) := by decide +kernel
theorem dL_law_939 : decode cL_law 939 = .ok (.iload_n 3, 1) := by decide +kernel
theorem dL_law_940 : decode cL_law 940 = .ok (.iconst 1, 1) := by decide +kernel
theorem dL_law_941 : decode cL_law 941 = .ok (.iadd, 1) := by decide +kernel
theorem dL_law_942 : decode cL_law 942 = .ok (.iaload, 1) := by decide +kernel
theorem dL_law_943 : decode cL_law 943 = .ok (.invokevirtual 107, 3) := by decide +kernel
theorem dL_law_946 : decode cL_law 946 = .ok (.if_icmp .eq 169, 3) := by decide +kernel
theorem dL_law_949 : decode cL_law 949 = .ok (.iconst 0, 1) := by decide +kernel
theorem dL_law_950 : decode cL_law 950 = .ok (.ireturn, 1) := by decide +kernel
theorem dL_law_951 : decode cL_law 951 = .ok (.aload_n 1, 1) := by decide +kernel
theorem dL_law_952 : decode cL_law 952 = .ok (.aload_n 0, 1) := by decide +kernel
theorem dL_law_953 : decode cL_law 953 = .ok (.iload_n 3, 1) := by decide +kernel
theorem dL_law_954 : decode cL_law 954 = .ok (.iconst 1, 1) := by decide +kernel
theorem dL_law_955 : decode cL_law 955 = .ok (.iadd, 1) := by decide +kernel
theorem dL_law_956 : decode cL_law 956 = .ok (.iaload, 1) := by decide +kernel
theorem dL_law_957 : decode cL_law 957 = .ok (.ifCond .eq 7, 3) := by decide +kernel
theorem dL_law_960 : decode cL_law 960 = .ok (.iconst 1, 1) := by decide +kernel
theorem dL_law_961 : decode cL_law 961 = .ok (.goto 4, 3) := by decide +kernel
theorem dL_law_964 : decode cL_law 964 = .ok (.iconst 0, 1) := by decide +kernel
theorem dL_law_965 : decode cL_law 965 = .ok (.invokevirtual 108, 3) := by decide +kernel
theorem dL_law_968 : decode cL_law 968 = .ok (.aload_n 2, 1) := by decide +kernel
theorem dL_law_969 : decode cL_law 969 = .ok (.aload_n 0, 1) := by decide +kernel
theorem dL_law_970 : decode cL_law 970 = .ok (.iload_n 3, 1) := by decide +kernel
theorem dL_law_971 : decode cL_law 971 = .ok (.iconst 1, 1) := by decide +kernel
theorem dL_law_972 : decode cL_law 972 = .ok (.iadd, 1) := by decide +kernel
theorem dL_law_973 : decode cL_law 973 = .ok (.iaload, 1) := by decide +kernel
theorem dL_law_974 : decode cL_law 974 = .ok (.ifCond .eq 7, 3) := by decide +kernel
theorem dL_law_977 : decode cL_law 977 = .ok (.iconst 1, 1) := by decide +kernel
theorem dL_law_978 : decode cL_law 978 = .ok (.goto 4, 3) := by decide +kernel
theorem dL_law_981 : decode cL_law 981 = .ok (.iconst 0, 1) := by decide +kernel
theorem dL_law_982 : decode cL_law 982 = .ok (.invokevirtual 112, 3) := by decide +kernel
theorem dL_law_985 : decode cL_law 985 = .ok (.if_icmp .eq 130, 3) := by decide +kernel
theorem dL_law_988 : decode cL_law 988 = .ok (.iconst 0, 1) := by decide +kernel
theorem dL_law_989 : decode cL_law 989 = .ok (.ireturn, 1) := by decide +kernel
theorem dL_law_990 : decode cL_law 990 = .ok (.aload_n 1, 1) := by decide +kernel
theorem dL_law_991 : decode cL_law 991 = .ok (.invokevirtual 113, 3) := by decide +kernel
theorem dL_law_994 : decode cL_law 994 = .ok (.aload_n 2, 1) := by decide +kernel
theorem dL_law_995 : decode cL_law 995 = .ok (.invokevirtual 116, 3) := by decide +kernel
theorem dL_law_998 : decode cL_law 998 = .ok (.if_icmp .eq 117, 3) := by decide +kernel
theorem dL_law_1001 : decode cL_law 1001 = .ok (.iconst 0, 1) := by decide +kernel
theorem dL_law_1002 : decode cL_law 1002 = .ok (.ireturn, 1) := by decide +kernel
theorem dL_law_1003 : decode cL_law 1003 = .ok (.aload_n 1, 1) := by decide +kernel
theorem dL_law_1004 : decode cL_law 1004 = .ok (.aload_n 0, 1) := by decide +kernel
theorem dL_law_1005 : decode cL_law 1005 = .ok (.iload_n 3, 1) := by decide +kernel
theorem dL_law_1006 : decode cL_law 1006 = .ok (.iconst 1, 1) := by decide +kernel
theorem dL_law_1007 : decode cL_law 1007 = .ok (.iadd, 1) := by decide +kernel
theorem dL_law_1008 : decode cL_law 1008 = .ok (.iaload, 1) := by decide +kernel
theorem dL_law_1009 : decode cL_law 1009 = .ok (.aload_n 0, 1) := by decide +kernel
theorem dL_law_1010 : decode cL_law 1010 = .ok (.iload_n 3, 1) := by decide +kernel
theorem dL_law_1011 : decode cL_law 1011 = .ok (.iconst 2, 1) := by decide +kernel
theorem dL_law_1012 : decode cL_law 1012 = .ok (.iadd, 1) := by decide +kernel
theorem dL_law_1013 : decode cL_law 1013 = .ok (.iaload, 1) := by decide +kernel
theorem dL_law_1014 : decode cL_law 1014 = .ok (.aload_n 0, 1) := by decide +kernel
theorem dL_law_1015 : decode cL_law 1015 = .ok (.iload_n 3, 1) := by decide +kernel
theorem dL_law_1016 : decode cL_law 1016 = .ok (.iconst 3, 1) := by decide +kernel
theorem dL_law_1017 : decode cL_law 1017 = .ok (.iadd, 1) := by decide +kernel
theorem dL_law_1018 : decode cL_law 1018 = .ok (.iaload, 1) := by decide +kernel
theorem dL_law_1019 : decode cL_law 1019 = .ok (.invokevirtual 117, 3) := by decide +kernel
theorem dL_law_1022 : decode cL_law 1022 = .ok (.aload_n 2, 1) := by decide +kernel
theorem dL_law_1023 : decode cL_law 1023 = .ok (.aload_n 0, 1) := by decide +kernel
theorem dL_law_1024 : decode cL_law 1024 = .ok (.iload_n 3, 1) := by decide +kernel
theorem dL_law_1025 : decode cL_law 1025 = .ok (.iconst 1, 1) := by decide +kernel
theorem dL_law_1026 : decode cL_law 1026 = .ok (.iadd, 1) := by decide +kernel
theorem dL_law_1027 : decode cL_law 1027 = .ok (.iaload, 1) := by decide +kernel
theorem dL_law_1028 : decode cL_law 1028 = .ok (.aload_n 0, 1) := by decide +kernel
theorem dL_law_1029 : decode cL_law 1029 = .ok (.iload_n 3, 1) := by decide +kernel
theorem dL_law_1030 : decode cL_law 1030 = .ok (.iconst 2, 1) := by decide +kernel
theorem dL_law_1031 : decode cL_law 1031 = .ok (.iadd, 1) := by decide +kernel
theorem dL_law_1032 : decode cL_law 1032 = .ok (.iaload, 1) := by decide +kernel
theorem dL_law_1033 : decode cL_law 1033 = .ok (.aload_n 0, 1) := by decide +kernel
theorem dL_law_1034 : decode cL_law 1034 = .ok (.iload_n 3, 1) := by decide +kernel
theorem dL_law_1035 : decode cL_law 1035 = .ok (.iconst 3, 1) := by decide +kernel
theorem dL_law_1036 : decode cL_law 1036 = .ok (.iadd, 1) := by decide +kernel
theorem dL_law_1037 : decode cL_law 1037 = .ok (.iaload, 1) := by decide +kernel
theorem dL_law_1038 : decode cL_law 1038 = .ok (.invokevirtual 120, 3) := by decide +kernel
theorem dL_law_1041 : decode cL_law 1041 = .ok (.if_icmp .eq 74, 3) := by decide +kernel
theorem dL_law_1044 : decode cL_law 1044 = .ok (.iconst 0, 1) := by decide +kernel
theorem dL_law_1045 : decode cL_law 1045 = .ok (.ireturn, 1) := by decide +kernel
theorem dL_law_1046 : decode cL_law 1046 = .ok (.aload_n 1, 1) := by decide +kernel
theorem dL_law_1047 : decode cL_law 1047 = .ok (.aload_n 0, 1) := by decide +kernel
theorem dL_law_1048 : decode cL_law 1048 = .ok (.iload_n 3, 1) := by decide +kernel
theorem dL_law_1049 : decode cL_law 1049 = .ok (.iconst 1, 1) := by decide +kernel
theorem dL_law_1050 : decode cL_law 1050 = .ok (.iadd, 1) := by decide +kernel
theorem dL_law_1051 : decode cL_law 1051 = .ok (.iaload, 1) := by decide +kernel
theorem dL_law_1052 : decode cL_law 1052 = .ok (.invokevirtual 121, 3) := by decide +kernel
theorem dL_law_1055 : decode cL_law 1055 = .ok (.aload_n 2, 1) := by decide +kernel
theorem dL_law_1056 : decode cL_law 1056 = .ok (.aload_n 0, 1) := by decide +kernel
theorem dL_law_1057 : decode cL_law 1057 = .ok (.iload_n 3, 1) := by decide +kernel
theorem dL_law_1058 : decode cL_law 1058 = .ok (.iconst 1, 1) := by decide +kernel
theorem dL_law_1059 : decode cL_law 1059 = .ok (.iadd, 1) := by decide +kernel
theorem dL_law_1060 : decode cL_law 1060 = .ok (.iaload, 1) := by decide +kernel
theorem dL_law_1061 : decode cL_law 1061 = .ok (.invokevirtual 124, 3) := by decide +kernel
theorem dL_law_1064 : decode cL_law 1064 = .ok (.if_icmp .eq 51, 3) := by decide +kernel
theorem dL_law_1067 : decode cL_law 1067 = .ok (.iconst 0, 1) := by decide +kernel
theorem dL_law_1068 : decode cL_law 1068 = .ok (.ireturn, 1) := by decide +kernel
theorem dL_law_1069 : decode cL_law 1069 = .ok (.aload_n 1, 1) := by decide +kernel
theorem dL_law_1070 : decode cL_law 1070 = .ok (.aload_n 0, 1) := by decide +kernel
theorem dL_law_1071 : decode cL_law 1071 = .ok (.iload_n 3, 1) := by decide +kernel
theorem dL_law_1072 : decode cL_law 1072 = .ok (.iconst 1, 1) := by decide +kernel
theorem dL_law_1073 : decode cL_law 1073 = .ok (.iadd, 1) := by decide +kernel
theorem dL_law_1074 : decode cL_law 1074 = .ok (.iaload, 1) := by decide +kernel
theorem dL_law_1075 : decode cL_law 1075 = .ok (.invokevirtual 125, 3) := by decide +kernel
theorem dL_law_1078 : decode cL_law 1078 = .ok (.aload_n 2, 1) := by decide +kernel
theorem dL_law_1079 : decode cL_law 1079 = .ok (.aload_n 0, 1) := by decide +kernel
theorem dL_law_1080 : decode cL_law 1080 = .ok (.iload_n 3, 1) := by decide +kernel
theorem dL_law_1081 : decode cL_law 1081 = .ok (.iconst 1, 1) := by decide +kernel
theorem dL_law_1082 : decode cL_law 1082 = .ok (.iadd, 1) := by decide +kernel
theorem dL_law_1083 : decode cL_law 1083 = .ok (.iaload, 1) := by decide +kernel
theorem dL_law_1084 : decode cL_law 1084 = .ok (.invokevirtual 128, 3) := by decide +kernel
theorem dL_law_1087 : decode cL_law 1087 = .ok (.if_icmp .eq 28, 3) := by decide +kernel
theorem dL_law_1090 : decode cL_law 1090 = .ok (.iconst 0, 1) := by decide +kernel
theorem dL_law_1091 : decode cL_law 1091 = .ok (.ireturn, 1) := by decide +kernel
theorem dL_law_1092 : decode cL_law 1092 = .ok (.aload_n 1, 1) := by decide +kernel
theorem dL_law_1093 : decode cL_law 1093 = .ok (.aload_n 0, 1) := by decide +kernel
theorem dL_law_1094 : decode cL_law 1094 = .ok (.iload_n 3, 1) := by decide +kernel
theorem dL_law_1095 : decode cL_law 1095 = .ok (.iconst 1, 1) := by decide +kernel
theorem dL_law_1096 : decode cL_law 1096 = .ok (.iadd, 1) := by decide +kernel
theorem dL_law_1097 : decode cL_law 1097 = .ok (.iaload, 1) := by decide +kernel
theorem dL_law_1098 : decode cL_law 1098 = .ok (.invokevirtual 129, 3) := by decide +kernel
theorem dL_law_1101 : decode cL_law 1101 = .ok (.aload_n 2, 1) := by decide +kernel
theorem dL_law_1102 : decode cL_law 1102 = .ok (.aload_n 0, 1) := by decide +kernel
theorem dL_law_1103 : decode cL_law 1103 = .ok (.iload_n 3, 1) := by decide +kernel
theorem dL_law_1104 : decode cL_law 1104 = .ok (.iconst 1, 1) := by decide +kernel
theorem dL_law_1105 : decode cL_law 1105 = .ok (.iadd, 1) := by decide +kernel
theorem dL_law_1106 : decode cL_law 1106 = .ok (.iaload, 1) := by decide +kernel
theorem dL_law_1107 : decode cL_law 1107 = .ok (.invokevirtual 132, 3) := by decide +kernel
theorem dL_law_1110 : decode cL_law 1110 = .ok (.if_icmp .eq 5, 3) := by decide +kernel
theorem dL_law_1113 : decode cL_law 1113 = .ok (.iconst 0, 1) := by decide +kernel
theorem dL_law_1114 : decode cL_law 1114 = .ok (.ireturn, 1) := by decide +kernel
theorem dL_law_1115 : decode cL_law 1115 = .ok (.iinc 3 6, 3) := by decide +kernel
theorem dL_law_1118 : decode cL_law 1118 = .ok (.goto (-1100), 3) := by decide +kernel
theorem dL_law_1121 : decode cL_law 1121 = .ok (.iconst 1, 1) := by decide +kernel
theorem dL_law_1122 : decode cL_law 1122 = .ok (.ireturn, 1) := by decide +kernel
