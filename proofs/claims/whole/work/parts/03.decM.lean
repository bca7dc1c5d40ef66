theorem dX10_init_0 : decode cX10_init 0 = .ok (.aload_n 0, 1) := by decide +kernel
theorem dX10_init_1 : decode cX10_init 1 = .ok (.invokespecial 1, 3) := by decide +kernel
theorem dX10_init_4 : decode cX10_init 4 = .ok (.aload_n 0, 1) := by decide +kernel
theorem dX10_init_5 : decode cX10_init 5 = .ok (.bipush 64, 2) := by decide +kernel
theorem dX10_init_7 : decode cX10_init 7 = .ok (.newarray .int, 2) := by decide +kernel
theorem dX10_init_9 : decode cX10_init 9 = .ok (.putfield 7, 3) := by decide +kernel
theorem dX10_init_12 : decode cX10_init 12 = .ok (.aload_n 0, 1) := by decide +kernel
theorem dX10_init_13 : decode cX10_init 13 = .ok (.bipush 6, 2) := by decide +kernel
theorem dX10_init_15 : decode cX10_init 15 = .ok (.newarray .int, 2) := by decide +kernel
theorem dX10_init_17 : decode cX10_init 17 = .ok (.putfield 13, 3) := by decide +kernel
theorem dX10_init_20 : decode cX10_init 20 = .ok (.aload_n 0, 1) := by decide +kernel
theorem dX10_init_21 : decode cX10_init 21 = .ok (.sipush 384, 3) := by decide +kernel
theorem dX10_init_24 : decode cX10_init 24 = .ok (.newarray .int, 2) := by decide +kernel
theorem dX10_init_26 : decode cX10_init 26 = .ok (.putfield 16, 3) := by decide +kernel
theorem dX10_init_29 : decode cX10_init 29 = .ok (.aload_n 0, 1) := by decide +kernel
theorem dX10_init_30 : decode cX10_init 30 = .ok (.bipush 6, 2) := by decide +kernel
theorem dX10_init_32 : decode cX10_init 32 = .ok (.newarray .boolean, 2) := by decide +kernel
theorem dX10_init_34 : decode cX10_init 34 = .ok (.putfield 19, 3) := by decide +kernel
theorem dX10_init_37 : decode cX10_init 37 = .ok (.aload_n 0, 1) := by decide +kernel
theorem dX10_init_38 : decode cX10_init 38 = .ok (.bipush 6, 2) := by decide +kernel
theorem dX10_init_40 : decode cX10_init 40 = .ok (.newarray .boolean, 2) := by decide +kernel
theorem dX10_init_42 : decode cX10_init 42 = .ok (.putfield 23, 3) := by decide +kernel
theorem dX10_init_45 : decode cX10_init 45 = .ok (.aload_n 0, 1) := by decide +kernel
theorem dX10_init_46 : decode cX10_init 46 = .ok (.bipush 6, 2) := by decide +kernel
theorem dX10_init_48 : decode cX10_init 48 = .ok (.newarray .int, 2) := by decide +kernel
theorem dX10_init_50 : decode cX10_init 50 = .ok (.putfield 26, 3) := by decide +kernel
theorem dX10_init_53 : decode cX10_init 53 = .ok (.aload_n 0, 1) := by decide +kernel
theorem dX10_init_54 : decode cX10_init 54 = .ok (.bipush 6, 2) := by decide +kernel
theorem dX10_init_56 : decode cX10_init 56 = .ok (.newarray .int, 2) := by decide +kernel
theorem dX10_init_58 : decode cX10_init 58 = .ok (.putfield 29, 3) := by decide +kernel
theorem dX10_init_61 : decode cX10_init 61 = .ok (.aload_n 0, 1) := by decide +kernel
theorem dX10_init_62 : decode cX10_init 62 = .ok (.sipush 288, 3) := by decide +kernel
theorem dX10_init_65 : decode cX10_init 65 = .ok (.newarray .int, 2) := by decide +kernel
theorem dX10_init_67 : decode cX10_init 67 = .ok (.putfield 32, 3) := by decide +kernel
theorem dX10_init_70 : decode cX10_init 70 = .ok (.aload_n 0, 1) := by decide +kernel
theorem dX10_init_71 : decode cX10_init 71 = .ok (.bipush 6, 2) := by decide +kernel
theorem dX10_init_73 : decode cX10_init 73 = .ok (.newarray .int, 2) := by decide +kernel
theorem dX10_init_75 : decode cX10_init 75 = .ok (.putfield 35, 3) := by decide +kernel
theorem dX10_init_78 : decode cX10_init 78 = .ok (.aload_n 0, 1) := by decide +kernel
theorem dX10_init_79 : decode cX10_init 79 = .ok (.bipush 6, 2) := by decide +kernel
theorem dX10_init_81 : decode cX10_init 81 = .ok (.newarray .int, 2) := by decide +kernel
theorem dX10_init_83 : decode cX10_init 83 = .ok (.putfield 38, 3) := by decide +kernel
theorem dX10_init_86 : decode cX10_init 86 = .ok (.aload_n 0, 1) := by decide +kernel
theorem dX10_init_87 : decode cX10_init 87 = .ok (.bipush 6, 2) := by decide +kernel
theorem dX10_init_89 : decode cX10_init 89 = .ok (.newarray .boolean, 2) := by decide +kernel
theorem dX10_init_91 : decode cX10_init 91 = .ok (.putfield 41, 3) := by decide +kernel
theorem dX10_init_94 : decode cX10_init 94 = .ok (.aload_n 0, 1) := by decide +kernel
theorem dX10_init_95 : decode cX10_init 95 = .ok (.bipush 6, 2) := by decide +kernel
theorem dX10_init_97 : decode cX10_init 97 = .ok (.newarray .int, 2) := by decide +kernel
theorem dX10_init_99 : decode cX10_init 99 = .ok (.putfield 44, 3) := by decide +kernel
theorem dX10_init_102 : decode cX10_init 102 = .ok (.aload_n 0, 1) := by decide +kernel
theorem dX10_init_103 : decode cX10_init 103 = .ok (.bipush 40, 2) := by decide +kernel
theorem dX10_init_105 : decode cX10_init 105 = .ok (.newarray .int, 2) := by decide +kernel
theorem dX10_init_107 : decode cX10_init 107 = .ok (.putfield 47, 3) := by decide +kernel
theorem dX10_init_110 : decode cX10_init 110 = .ok (.aload_n 0, 1) := by decide +kernel
theorem dX10_init_111 : decode cX10_init 111 = .ok (.bipush 40, 2) := by decide +kernel
theorem dX10_init_113 : decode cX10_init 113 = .ok (.newarray .int, 2) := by decide +kernel
theorem dX10_init_115 : decode cX10_init 115 = .ok (.putfield 50, 3) := by decide +kernel
theorem dX10_init_118 : decode cX10_init 118 = .ok (.aload_n 0, 1) := by decide +kernel
theorem dX10_init_119 : decode cX10_init 119 = .ok (.bipush 40, 2) := by decide +kernel
theorem dX10_init_121 : decode cX10_init 121 = .ok (.newarray .boolean, 2) := by decide +kernel
theorem dX10_init_123 : decode cX10_init 123 = .ok (.putfield 53, 3) := by decide +kernel
theorem dX10_init_126 : decode cX10_init 126 = .ok (.aload_n 0, 1) := by decide +kernel
theorem dX10_init_127 : decode cX10_init 127 = .ok (.bipush 40, 2) := by decide +kernel
theorem dX10_init_129 : decode cX10_init 129 = .ok (.newarray .int, 2) := by decide +kernel
theorem dX10_init_131 : decode cX10_init 131 = .ok (.putfield 56, 3) := by decide +kernel
theorem dX10_init_134 : decode cX10_init 134 = .ok (.aload_n 0, 1) := by decide +kernel
theorem dX10_init_135 : decode cX10_init 135 = .ok (.bipush 40, 2) := by decide +kernel
theorem dX10_init_137 : decode cX10_init 137 = .ok (.newarray .int, 2) := by decide +kernel
theorem dX10_init_139 : decode cX10_init 139 = .ok (.putfield 59, 3) := by decide +kernel
theorem dX10_init_142 : decode cX10_init 142 = .ok (.aload_n 0, 1) := by decide +kernel
theorem dX10_init_143 : decode cX10_init 143 = .ok (.iconst 4, 1) := by decide +kernel
theorem dX10_init_144 : decode cX10_init 144 = .ok (.newarray .int, 2) := by decide +kernel
theorem dX10_init_146 : decode cX10_init 146 = .ok (.putfield 62, 3) := by decide +kernel
theorem dX10_init_149 : decode cX10_init 149 = .ok (.aload_n 0, 1) := by decide +kernel
theorem dX10_init_150 : decode cX10_init 150 = .ok (.iconst 4, 1) := by decide +kernel
theorem dX10_init_151 : decode cX10_init 151 = .ok (.newarray .int, 2) := by decide +kernel
theorem dX10_init_153 : decode cX10_init 153 = .ok (.putfield 65, 3) := by decide +kernel
theorem dX10_init_156 : decode cX10_init 156 = .ok (.aload_n 0, 1) := by decide +kernel
theorem dX10_init_157 : decode cX10_init 157 = .ok (.iconst 4, 1) := by decide +kernel
theorem dX10_init_158 : decode cX10_init 158 = .ok (.newarray .int, 2) := by decide +kernel
theorem dX10_init_160 : decode cX10_init 160 = .ok (.putfield 68, 3) := by decide +kernel
theorem dX10_init_163 : decode cX10_init 163 = .ok (.aload_n 0, 1) := by decide +kernel
theorem dX10_init_164 : decode cX10_init 164 = .ok (.sipush 400, 3) := by decide +kernel
theorem dX10_init_167 : decode cX10_init 167 = .ok (.newarray .int, 2) := by decide +kernel
theorem dX10_init_169 : decode cX10_init 169 = .ok (.putfield 71, 3) := by decide +kernel
theorem dX10_init_172 : decode cX10_init 172 = .ok (.aload_n 0, 1) := by decide +kernel
theorem dX10_init_173 : decode cX10_init 173 = .ok (.sipush 600, 3) := by decide +kernel
theorem dX10_init_176 : decode cX10_init 176 = .ok (.newarray .int, 2) := by decide +kernel
theorem dX10_init_178 : decode cX10_init 178 = .ok (.putfield 74, 3) := by decide +kernel
theorem dX10_init_181 : decode cX10_init 181 = .ok (.aload_n 0, 1) := by decide +kernel
theorem dX10_init_182 : decode cX10_init 182 = .ok (.bipush 8, 2) := by decide +kernel
theorem dX10_init_184 : decode cX10_init 184 = .ok (.newarray .int, 2) := by decide +kernel
theorem dX10_init_186 : decode cX10_init 186 = .ok (.putfield 77, 3) := by decide +kernel
theorem dX10_init_189 : decode cX10_init 189 = .ok (.aload_n 0, 1) := by decide +kernel
theorem dX10_init_190 : decode cX10_init 190 = .ok (.iconst 0, 1) := by decide +kernel
theorem dX10_init_191 : decode cX10_init 191 = .ok (.putfield 80, 3) := by decide +kernel
theorem dX10_init_194 : decode cX10_init 194 = .ok (.return_, 1) := by decide +kernel
theorem dX10_thrown_0 : decode cX10_thrown 0 = .ok (.aload_n 0, 1) := by decide +kernel
theorem dX10_thrown_1 : decode cX10_thrown 1 = .ok (.getfield 84, 3) := by decide +kernel
theorem dX10_thrown_4 : decode cX10_thrown 4 = .ok (.ireturn, 1) := by decide +kernel
theorem dX10_in_0 : decode cX10_in 0 = .ok (.lload_n 0, 1) := by decide +kernel
theorem dX10_in_1 : decode cX10_in 1 = .ok (.lload_n 2, 1) := by decide +kernel
theorem dX10_in_2 : decode cX10_in 2 = .ok (.lcmp, 1) := by decide +kernel
theorem dX10_in_3 : decode cX10_in 3 = .ok (.ifCond .lt 14, 3) := by decide +kernel
theorem dX10_in_6 : decode cX10_in 6 = .ok (.lload_n 0, 1) := by decide +kernel
theorem dX10_in_7 : decode cX10_in 7 = .ok (.lload 4, 2) := by decide +kernel
theorem dX10_in_9 : decode cX10_in 9 = .ok (.lcmp, 1) := by decide +kernel
theorem dX10_in_10 : decode cX10_in 10 = .ok (.ifCond .gt 7, 3) := by decide +kernel
theorem dX10_in_13 : decode cX10_in 13 = .ok (.iconst 1, 1) := by decide +kernel
theorem dX10_in_14 : decode cX10_in 14 = .ok (.goto 4, 3) := by decide +kernel
theorem dX10_in_17 : decode cX10_in 17 = .ok (.iconst 0, 1) := by decide +kernel
theorem dX10_in_18 : decode cX10_in 18 = .ok (.ireturn, 1) := by decide +kernel
theorem dX10_feed_0 : decode cX10_feed 0 = .ok (.iload_n 1, 1) := by decide +kernel
theorem dX10_feed_1 : decode cX10_feed 1 = .ok (.i2l, 1) := by decide +kernel
theorem dX10_feed_2 : decode cX10_feed 2 = .ok (.lconst 1, 1) := by decide +kernel
theorem dX10_feed_3 : decode cX10_feed 3 = .ok (.ldc2_w 87, 3) := by decide +kernel
theorem dX10_feed_6 : decode cX10_feed 6 = .ok (.invokestatic 89, 3) := by decide +kernel
theorem dX10_feed_9 : decode cX10_feed 9 = .ok (.ifCond .ne 6, 3) := by decide +kernel
theorem dX10_feed_12 : decode cX10_feed 12 = .ok (.bipush (-102), 2) := by decide +kernel
theorem dX10_feed_14 : decode cX10_feed 14 = .ok (.ireturn, 1) := by decide +kernel
theorem dX10_feed_15 : decode cX10_feed 15 = .ok (.aload_n 0, 1) := by decide +kernel
theorem dX10_feed_16 : decode cX10_feed 16 = .ok (.getfield 93, 3) := by decide +kernel
theorem dX10_feed_19 : decode cX10_feed 19 = .ok (.iload_n 1, 1) := by decide +kernel
theorem dX10_feed_20 : decode cX10_feed 20 = .ok (.iadd, 1) := by decide +kernel
theorem dX10_feed_21 : decode cX10_feed 21 = .ok (.bipush 64, 2) := by decide +kernel
theorem dX10_feed_23 : decode cX10_feed 23 = .ok (.if_icmp .le 6, 3) := by decide +kernel
theorem dX10_feed_26 : decode cX10_feed 26 = .ok (.bipush (-104), 2) := by decide +kernel
theorem dX10_feed_28 : decode cX10_feed 28 = .ok (.ireturn, 1) := by decide +kernel
theorem dX10_feed_29 : decode cX10_feed 29 = .ok (.iload_n 1, 1) := by decide +kernel
theorem dX10_feed_30 : decode cX10_feed 30 = .ok (.iconst 1, 1) := by decide +kernel
theorem dX10_feed_31 : decode cX10_feed 31 = .ok (.isub, 1) := by decide +kernel
theorem dX10_feed_32 : decode cX10_feed 32 = .ok (.istore 4, 2) := by decide +kernel
theorem dX10_feed_34 : decode cX10_feed 34 = .ok (.iload 4, 2) := by decide +kernel
theorem dX10_feed_36 : decode cX10_feed 36 = .ok (.ifCond .lt 40, 3) := by decide +kernel
theorem dX10_feed_39 : decode cX10_feed 39 = .ok (.aload_n 0, 1) := by decide +kernel
theorem dX10_feed_40 : decode cX10_feed 40 = .ok (.getfield 7, 3) := by decide +kernel
theorem dX10_feed_43 : decode cX10_feed 43 = .ok (.aload_n 0, 1) := by decide +kernel
theorem dX10_feed_44 : decode cX10_feed 44 = .ok (.getfield 93, 3) := by decide +kernel
theorem dX10_feed_47 : decode cX10_feed 47 = .ok (.lload_n 2, 1) := by decide +kernel
theorem dX10_feed_48 : decode cX10_feed 48 = .ok (.bipush 8, 2) := by decide +kernel
theorem dX10_feed_50 : decode cX10_feed 50 = .ok (.iload 4, 2) := by decide +kernel
theorem dX10_feed_52 : decode cX10_feed 52 = .ok (.imul, 1) := by decide +kernel
theorem dX10_feed_53 : decode cX10_feed 53 = .ok (.lshr, 1) := by decide +kernel
theorem dX10_feed_54 : decode cX10_feed 54 = .ok (.ldc2_w 96, 3) := by decide +kernel
theorem dX10_feed_57 : decode cX10_feed 57 = .ok (.land, 1) := by decide +kernel
theorem dX10_feed_58 : decode cX10_feed 58 = .ok (.l2i, 1) := by decide +kernel
theorem dX10_feed_59 : decode cX10_feed 59 = .ok (.iastore, 1) := by decide +kernel
theorem dX10_feed_60 : decode cX10_feed 60 = .ok (.aload_n 0, 1) := by decide +kernel
theorem dX10_feed_61 : decode cX10_feed 61 = .ok (.dup, 1) := by decide +kernel
theorem dX10_feed_62 : decode cX10_feed 62 = .ok (.getfield 93, 3) := by decide +kernel
theorem dX10_feed_65 : decode cX10_feed 65 = .ok (.iconst 1, 1) := by decide +kernel
theorem dX10_feed_66 : decode cX10_feed 66 = .ok (.iadd, 1) := by decide +kernel
theorem dX10_feed_67 : decode cX10_feed 67 = .ok (.putfield 93, 3) := by decide +kernel
theorem dX10_feed_70 : decode cX10_feed 70 = .ok (.iinc 4 (-1), 3) := by decide +kernel
theorem dX10_feed_73 : decode cX10_feed 73 = .ok (.goto (-39), 3) := by decide +kernel
theorem dX10_feed_76 : decode cX10_feed 76 = .ok (.aload_n 0, 1) := by decide +kernel
theorem dX10_feed_77 : decode cX10_feed 77 = .ok (.getfield 93, 3) := by decide +kernel
theorem dX10_feed_80 : decode cX10_feed 80 = .ok (.ireturn, 1) := by decide +kernel
theorem dX10_isFile_0 : decode cX10_isFile 0 = .ok (.iload_n 0, 1) := by decide +kernel
theorem dX10_isFile_1 : decode cX10_isFile 1 = .ok (.i2l, 1) := by decide +kernel
theorem dX10_isFile_2 : decode cX10_isFile 2 = .ok (.lconst 0, 1) := by decide +kernel
theorem dX10_isFile_3 : decode cX10_isFile 3 = .ok (.ldc2_w 98, 3) := by decide +kernel
theorem dX10_isFile_6 : decode cX10_isFile 6 = .ok (.invokestatic 89, 3) := by decide +kernel
theorem dX10_isFile_9 : decode cX10_isFile 9 = .ok (.ireturn, 1) := by decide +kernel
theorem dX10_lay_0 : decode cX10_lay 0 = .ok (.iload_n 1, 1) := by decide +kernel
theorem dX10_lay_1 : decode cX10_lay 1 = .ok (.invokestatic 100, 3) := by decide +kernel
theorem dX10_lay_4 : decode cX10_lay 4 = .ok (.ifCond .ne 6, 3) := by decide +kernel
theorem dX10_lay_7 : decode cX10_lay 7 = .ok (.bipush (-101), 2) := by decide +kernel
theorem dX10_lay_9 : decode cX10_lay 9 = .ok (.ireturn, 1) := by decide +kernel
theorem dX10_lay_10 : decode cX10_lay 10 = .ok (.iconst 0, 1) := by decide +kernel
theorem dX10_lay_11 : decode cX10_lay 11 = .ok (.istore_n 2, 1) := by decide +kernel
theorem dX10_lay_12 : decode cX10_lay 12 = .ok (.iload_n 2, 1) := by decide +kernel
theorem dX10_lay_13 : decode cX10_lay 13 = .ok (.aload_n 0, 1) := by decide +kernel
theorem dX10_lay_14 : decode cX10_lay 14 = .ok (.getfield 93, 3) := by decide +kernel
theorem dX10_lay_17 : decode cX10_lay 17 = .ok (.if_icmp .ge 26, 3) := by decide +kernel
theorem dX10_lay_20 : decode cX10_lay 20 = .ok (.aload_n 0, 1) := by decide +kernel
theorem dX10_lay_21 : decode cX10_lay 21 = .ok (.getfield 16, 3) := by decide +kernel
theorem dX10_lay_24 : decode cX10_lay 24 = .ok (.bipush 64, 2) := by decide +kernel
theorem dX10_lay_26 : decode cX10_lay 26 = .ok (.iload_n 1, 1) := by decide +kernel
theorem dX10_lay_27 : decode cX10_lay 27 = .ok (.imul, 1) := by decide +kernel
theorem dX10_lay_28 : decode cX10_lay 28 = .ok (.iload_n 2, 1) := by decide +kernel
theorem dX10_lay_29 : decode cX10_lay 29 = .ok (.iadd, 1) := by decide +kernel
theorem dX10_lay_30 : decode cX10_lay 30 = .ok (.aload_n 0, 1) := by decide +kernel
theorem dX10_lay_31 : decode cX10_lay 31 = .ok (.getfield 7, 3) := by decide +kernel
theorem dX10_lay_34 : decode cX10_lay 34 = .ok (.iload_n 2, 1) := by decide +kernel
theorem dX10_lay_35 : decode cX10_lay 35 = .ok (.iaload, 1) := by decide +kernel
theorem dX10_lay_36 : decode cX10_lay 36 = .ok (.iastore, 1) := by decide +kernel
theorem dX10_lay_37 : decode cX10_lay 37 = .ok (.iinc 2 1, 3) := by decide +kernel
theorem dX10_lay_40 : decode cX10_lay 40 = .ok (.goto (-28), 3) := by decide +kernel
theorem dX10_lay_43 : decode cX10_lay 43 = .ok (.aload_n 0, 1) := by decide +kernel
theorem dX10_lay_44 : decode cX10_lay 44 = .ok (.getfield 13, 3) := by decide +kernel
theorem dX10_lay_47 : decode cX10_lay 47 = .ok (.iload_n 1, 1) := by decide +kernel
theorem dX10_lay_48 : decode cX10_lay 48 = .ok (.aload_n 0, 1) := by decide +kernel
theorem dX10_lay_49 : decode cX10_lay 49 = .ok (.getfield 93, 3) := by decide +kernel
theorem dX10_lay_52 : decode cX10_lay 52 = .ok (.iastore, 1) := by decide +kernel
theorem dX10_lay_53 : decode cX10_lay 53 = .ok (.aload_n 0, 1) := by decide +kernel
theorem dX10_lay_54 : decode cX10_lay 54 = .ok (.iconst 0, 1) := by decide +kernel
theorem dX10_lay_55 : decode cX10_lay 55 = .ok (.putfield 93, 3) := by decide +kernel
theorem dX10_lay_58 : decode cX10_lay 58 = .ok (.aload_n 0, 1) := by decide +kernel
theorem dX10_lay_59 : decode cX10_lay 59 = .ok (.getfield 19, 3) := by decide +kernel
theorem dX10_lay_62 : decode cX10_lay 62 = .ok (.iload_n 1, 1) := by decide +kernel
theorem dX10_lay_63 : decode cX10_lay 63 = .ok (.iconst 0, 1) := by decide +kernel
theorem dX10_lay_64 : decode cX10_lay 64 = .ok (.bastore, 1) := by decide +kernel
theorem dX10_lay_65 : decode cX10_lay 65 = .ok (.aload_n 0, 1) := by decide +kernel
theorem dX10_lay_66 : decode cX10_lay 66 = .ok (.getfield 23, 3) := by decide +kernel
theorem dX10_lay_69 : decode cX10_lay 69 = .ok (.iload_n 1, 1) := by decide +kernel
theorem dX10_lay_70 : decode cX10_lay 70 = .ok (.iconst 0, 1) := by decide +kernel
theorem dX10_lay_71 : decode cX10_lay 71 = .ok (.bastore, 1) := by decide +kernel
theorem dX10_lay_72 : decode cX10_lay 72 = .ok (.aload_n 0, 1) := by decide +kernel
theorem dX10_lay_73 : decode cX10_lay 73 = .ok (.getfield 13, 3) := by decide +kernel
theorem dX10_lay_76 : decode cX10_lay 76 = .ok (.iload_n 1, 1) := by decide +kernel
theorem dX10_lay_77 : decode cX10_lay 77 = .ok (.iaload, 1) := by decide +kernel
theorem dX10_lay_78 : decode cX10_lay 78 = .ok (.ireturn, 1) := by decide +kernel
theorem dX10_octet_0 : decode cX10_octet 0 = .ok (.iload_n 1, 1) := by decide +kernel
theorem dX10_octet_1 : decode cX10_octet 1 = .ok (.invokestatic 100, 3) := by decide +kernel
theorem dX10_octet_4 : decode cX10_octet 4 = .ok (.ifCond .eq 36, 3) := by decide +kernel
theorem dX10_octet_7 : decode cX10_octet 7 = .ok (.iload_n 2, 1) := by decide +kernel
theorem dX10_octet_8 : decode cX10_octet 8 = .ok (.i2l, 1) := by decide +kernel
theorem dX10_octet_9 : decode cX10_octet 9 = .ok (.lconst 0, 1) := by decide +kernel
theorem dX10_octet_10 : decode cX10_octet 10 = .ok (.aload_n 0, 1) := by decide +kernel
theorem dX10_octet_11 : decode cX10_octet 11 = .ok (.getfield 13, 3) := by decide +kernel
theorem dX10_octet_14 : decode cX10_octet 14 = .ok (.iload_n 1, 1) := by decide +kernel
theorem dX10_octet_15 : decode cX10_octet 15 = .ok (.invokestatic 100, 3) := by decide +kernel
theorem dX10_octet_18 : decode cX10_octet 18 = .ok (.ifCond .eq 7, 3) := by decide +kernel
theorem dX10_octet_21 : decode cX10_octet 21 = .ok (.iload_n 1, 1) := by decide +kernel
theorem dX10_octet_22 : decode cX10_octet 22 = .ok (.goto 4, 3) := by decide +kernel
theorem dX10_octet_25 : decode cX10_octet 25 = .ok (.iconst 0, 1) := by decide +kernel
theorem dX10_octet_26 : decode cX10_octet 26 = .ok (.iaload, 1) := by decide +kernel
theorem dX10_octet_27 : decode cX10_octet 27 = .ok (.iconst 1, 1) := by decide +kernel
theorem dX10_octet_28 : decode cX10_octet 28 = .ok (.isub, 1) := by decide +kernel
theorem dX10_octet_29 : decode cX10_octet 29 = .ok (.i2l, 1) := by decide +kernel
theorem dX10_octet_30 : decode cX10_octet 30 = .ok (.invokestatic 89, 3) := by decide +kernel
theorem dX10_octet_33 : decode cX10_octet 33 = .ok (.ifCond .eq 7, 3) := by decide +kernel
theorem dX10_octet_36 : decode cX10_octet 36 = .ok (.iconst 1, 1) := by decide +kernel
theorem dX10_octet_37 : decode cX10_octet 37 = .ok (.goto 4, 3) := by decide +kernel
theorem dX10_octet_40 : decode cX10_octet 40 = .ok (.iconst 0, 1) := by decide +kernel
theorem dX10_octet_41 : decode cX10_octet 41 = .ok (.istore_n 3, 1) := by decide +kernel
theorem dX10_octet_42 : decode cX10_octet 42 = .ok (.aload_n 0, 1) := by decide +kernel
theorem dX10_octet_43 : decode cX10_octet 43 = .ok (.iload_n 3, 1) := by decide +kernel
theorem dX10_octet_44 : decode cX10_octet 44 = .ok (.ifCond .eq 7, 3) := by decide +kernel
theorem dX10_octet_47 : decode cX10_octet 47 = .ok (.iconst 0, 1) := by decide +kernel
theorem dX10_octet_48 : decode cX10_octet 48 = .ok (.goto 4, 3) := by decide +kernel
theorem dX10_octet_51 : decode cX10_octet 51 = .ok (.iconst 1, 1) := by decide +kernel
theorem dX10_octet_52 : decode cX10_octet 52 = .ok (.putfield 84, 3) := by decide +kernel
theorem dX10_octet_55 : decode cX10_octet 55 = .ok (.iload_n 3, 1) := by decide +kernel
theorem dX10_octet_56 : decode cX10_octet 56 = .ok (.ifCond .eq 18, 3) := by decide +kernel
theorem dX10_octet_59 : decode cX10_octet 59 = .ok (.aload_n 0, 1) := by decide +kernel
theorem dX10_octet_60 : decode cX10_octet 60 = .ok (.getfield 16, 3) := by decide +kernel
theorem dX10_octet_63 : decode cX10_octet 63 = .ok (.bipush 64, 2) := by decide +kernel
theorem dX10_octet_65 : decode cX10_octet 65 = .ok (.iload_n 1, 1) := by decide +kernel
theorem dX10_octet_66 : decode cX10_octet 66 = .ok (.imul, 1) := by decide +kernel
theorem dX10_octet_67 : decode cX10_octet 67 = .ok (.iload_n 2, 1) := by decide +kernel
theorem dX10_octet_68 : decode cX10_octet 68 = .ok (.iadd, 1) := by decide +kernel
theorem dX10_octet_69 : decode cX10_octet 69 = .ok (.iaload, 1) := by decide +kernel
theorem dX10_octet_70 : decode cX10_octet 70 = .ok (.i2b, 1) := by decide +kernel
theorem dX10_octet_71 : decode cX10_octet 71 = .ok (.goto 4, 3) := by decide +kernel
theorem dX10_octet_74 : decode cX10_octet 74 = .ok (.iconst 0, 1) := by decide +kernel
theorem dX10_octet_75 : decode cX10_octet 75 = .ok (.ireturn, 1) := by decide +kernel
theorem dX10_plant_0 : decode cX10_plant 0 = .ok (.iload_n 1, 1) := by decide +kernel
theorem dX10_plant_1 : decode cX10_plant 1 = .ok (.invokestatic 100, 3) := by decide +kernel
theorem dX10_plant_4 : decode cX10_plant 4 = .ok (.ifCond .eq 21, 3) := by decide +kernel
theorem dX10_plant_7 : decode cX10_plant 7 = .ok (.iload_n 2, 1) := by decide +kernel
theorem dX10_plant_8 : decode cX10_plant 8 = .ok (.i2l, 1) := by decide +kernel
theorem dX10_plant_9 : decode cX10_plant 9 = .ok (.lconst 0, 1) := by decide +kernel
theorem dX10_plant_10 : decode cX10_plant 10 = .ok (.aload_n 0, 1) := by decide +kernel
theorem dX10_plant_11 : decode cX10_plant 11 = .ok (.getfield 13, 3) := by decide +kernel
theorem dX10_plant_14 : decode cX10_plant 14 = .ok (.iload_n 1, 1) := by decide +kernel
theorem dX10_plant_15 : decode cX10_plant 15 = .ok (.iaload, 1) := by decide +kernel
theorem dX10_plant_16 : decode cX10_plant 16 = .ok (.iconst 1, 1) := by decide +kernel
theorem dX10_plant_17 : decode cX10_plant 17 = .ok (.isub, 1) := by decide +kernel
theorem dX10_plant_18 : decode cX10_plant 18 = .ok (.i2l, 1) := by decide +kernel
theorem dX10_plant_19 : decode cX10_plant 19 = .ok (.invokestatic 89, 3) := by decide +kernel
theorem dX10_plant_22 : decode cX10_plant 22 = .ok (.ifCond .ne 6, 3) := by decide +kernel
theorem dX10_plant_25 : decode cX10_plant 25 = .ok (.bipush (-101), 2) := by decide +kernel
theorem dX10_plant_27 : decode cX10_plant 27 = .ok (.ireturn, 1) := by decide +kernel
theorem dX10_plant_28 : decode cX10_plant 28 = .ok (.iload_n 3, 1) := by decide +kernel
theorem dX10_plant_29 : decode cX10_plant 29 = .ok (.i2l, 1) := by decide +kernel
theorem dX10_plant_30 : decode cX10_plant 30 = .ok (.lconst 0, 1) := by decide +kernel
theorem dX10_plant_31 : decode cX10_plant 31 = .ok (.ldc2_w 96, 3) := by decide +kernel
theorem dX10_plant_34 : decode cX10_plant 34 = .ok (.invokestatic 89, 3) := by decide +kernel
theorem dX10_plant_37 : decode cX10_plant 37 = .ok (.ifCond .ne 6, 3) := by decide +kernel
theorem dX10_plant_40 : decode cX10_plant 40 = .ok (.bipush (-102), 2) := by decide +kernel
theorem dX10_plant_42 : decode cX10_plant 42 = .ok (.ireturn, 1) := by decide +kernel
theorem dX10_plant_43 : decode cX10_plant 43 = .ok (.aload_n 0, 1) := by decide +kernel
theorem dX10_plant_44 : decode cX10_plant 44 = .ok (.getfield 16, 3) := by decide +kernel
theorem dX10_plant_47 : decode cX10_plant 47 = .ok (.bipush 64, 2) := by decide +kernel
theorem dX10_plant_49 : decode cX10_plant 49 = .ok (.iload_n 1, 1) := by decide +kernel
theorem dX10_plant_50 : decode cX10_plant 50 = .ok (.imul, 1) := by decide +kernel
theorem dX10_plant_51 : decode cX10_plant 51 = .ok (.iload_n 2, 1) := by decide +kernel
theorem dX10_plant_52 : decode cX10_plant 52 = .ok (.iadd, 1) := by decide +kernel
theorem dX10_plant_53 : decode cX10_plant 53 = .ok (.dup2, 1) := by decide +kernel
theorem dX10_plant_54 : decode cX10_plant 54 = .ok (.iaload, 1) := by decide +kernel
theorem dX10_plant_55 : decode cX10_plant 55 = .ok (.iload_n 3, 1) := by decide +kernel
theorem dX10_plant_56 : decode cX10_plant 56 = .ok (.ixor, 1) := by decide +kernel
theorem dX10_plant_57 : decode cX10_plant 57 = .ok (.iastore, 1) := by decide +kernel
theorem dX10_plant_58 : decode cX10_plant 58 = .ok (.aload_n 0, 1) := by decide +kernel
theorem dX10_plant_59 : decode cX10_plant 59 = .ok (.getfield 16, 3) := by decide +kernel
theorem dX10_plant_62 : decode cX10_plant 62 = .ok (.bipush 64, 2) := by decide +kernel
theorem dX10_plant_64 : decode cX10_plant 64 = .ok (.iload_n 1, 1) := by decide +kernel
theorem dX10_plant_65 : decode cX10_plant 65 = .ok (.imul, 1) := by decide +kernel
theorem dX10_plant_66 : decode cX10_plant 66 = .ok (.iload_n 2, 1) := by decide +kernel
theorem dX10_plant_67 : decode cX10_plant 67 = .ok (.iadd, 1) := by decide +kernel
theorem dX10_plant_68 : decode cX10_plant 68 = .ok (.iaload, 1) := by decide +kernel
theorem dX10_plant_69 : decode cX10_plant 69 = .ok (.ireturn, 1) := by decide +kernel
theorem dX10_fails_0 : decode cX10_fails 0 = .ok (.iload_n 1, 1) := by decide +kernel
theorem dX10_fails_1 : decode cX10_fails 1 = .ok (.invokestatic 100, 3) := by decide +kernel
theorem dX10_fails_4 : decode cX10_fails 4 = .ok (.ifCond .ne 6, 3) := by decide +kernel
theorem dX10_fails_7 : decode cX10_fails 7 = .ok (.bipush (-101), 2) := by decide +kernel
theorem dX10_fails_9 : decode cX10_fails 9 = .ok (.ireturn, 1) := by decide +kernel
theorem dX10_fails_10 : decode cX10_fails 10 = .ok (.aload_n 0, 1) := by decide +kernel
theorem dX10_fails_11 : decode cX10_fails 11 = .ok (.getfield 19, 3) := by decide +kernel
theorem dX10_fails_14 : decode cX10_fails 14 = .ok (.iload_n 1, 1) := by decide +kernel
theorem dX10_fails_15 : decode cX10_fails 15 = .ok (.baload, 1) := by decide +kernel
theorem dX10_fails_16 : decode cX10_fails 16 = .ok (.ifCond .eq 7, 3) := by decide +kernel
theorem dX10_fails_19 : decode cX10_fails 19 = .ok (.iconst 1, 1) := by decide +kernel
theorem dX10_fails_20 : decode cX10_fails 20 = .ok (.goto 4, 3) := by decide +kernel
theorem dX10_fails_23 : decode cX10_fails 23 = .ok (.iconst 0, 1) := by decide +kernel
theorem dX10_fails_24 : decode cX10_fails 24 = .ok (.istore_n 3, 1) := by decide +kernel
theorem dX10_fails_25 : decode cX10_fails 25 = .ok (.aload_n 0, 1) := by decide +kernel
theorem dX10_fails_26 : decode cX10_fails 26 = .ok (.getfield 19, 3) := by decide +kernel
theorem dX10_fails_29 : decode cX10_fails 29 = .ok (.iload_n 1, 1) := by decide +kernel
theorem dX10_fails_30 : decode cX10_fails 30 = .ok (.iload_n 2, 1) := by decide +kernel
theorem dX10_fails_31 : decode cX10_fails 31 = .ok (.bastore, 1) := by decide +kernel
theorem dX10_fails_32 : decode cX10_fails 32 = .ok (.aload_n 0, 1) := by decide +kernel
theorem dX10_fails_33 : decode cX10_fails 33 = .ok (.getfield 23, 3) := by decide +kernel
theorem dX10_fails_36 : decode cX10_fails 36 = .ok (.iload_n 1, 1) := by decide +kernel
theorem dX10_fails_37 : decode cX10_fails 37 = .ok (.iconst 0, 1) := by decide +kernel
theorem dX10_fails_38 : decode cX10_fails 38 = .ok (.bastore, 1) := by decide +kernel
theorem dX10_fails_39 : decode cX10_fails 39 = .ok (.iload_n 3, 1) := by decide +kernel
theorem dX10_fails_40 : decode cX10_fails 40 = .ok (.ireturn, 1) := by decide +kernel
theorem dX10_isRule_0 : decode cX10_isRule 0 = .ok (.aload_n 0, 1) := by decide +kernel
theorem dX10_isRule_1 : decode cX10_isRule 1 = .ok (.getfield 16, 3) := by decide +kernel
theorem dX10_isRule_4 : decode cX10_isRule 4 = .ok (.iload_n 1, 1) := by decide +kernel
theorem dX10_isRule_5 : decode cX10_isRule 5 = .ok (.iaload, 1) := by decide +kernel
theorem dX10_isRule_6 : decode cX10_isRule 6 = .ok (.istore_n 2, 1) := by decide +kernel
theorem dX10_isRule_7 : decode cX10_isRule 7 = .ok (.aload_n 0, 1) := by decide +kernel
theorem dX10_isRule_8 : decode cX10_isRule 8 = .ok (.getfield 16, 3) := by decide +kernel
theorem dX10_isRule_11 : decode cX10_isRule 11 = .ok (.iload_n 1, 1) := by decide +kernel
theorem dX10_isRule_12 : decode cX10_isRule 12 = .ok (.iconst 1, 1) := by decide +kernel
theorem dX10_isRule_13 : decode cX10_isRule 13 = .ok (.iadd, 1) := by decide +kernel
theorem dX10_isRule_14 : decode cX10_isRule 14 = .ok (.iaload, 1) := by decide +kernel
theorem dX10_isRule_15 : decode cX10_isRule 15 = .ok (.istore_n 3, 1) := by decide +kernel
theorem dX10_isRule_16 : decode cX10_isRule 16 = .ok (.aload_n 0, 1) := by decide +kernel
theorem dX10_isRule_17 : decode cX10_isRule 17 = .ok (.getfield 16, 3) := by decide +kernel
theorem dX10_isRule_20 : decode cX10_isRule 20 = .ok (.iload_n 1, 1) := by decide +kernel
theorem dX10_isRule_21 : decode cX10_isRule 21 = .ok (.iconst 2, 1) := by decide +kernel
theorem dX10_isRule_22 : decode cX10_isRule 22 = .ok (.iadd, 1) := by decide +kernel
theorem dX10_isRule_23 : decode cX10_isRule 23 = .ok (.iaload, 1) := by decide +kernel
theorem dX10_isRule_24 : decode cX10_isRule 24 = .ok (.istore 4, 2) := by decide +kernel
theorem dX10_isRule_26 : decode cX10_isRule 26 = .ok (.aload_n 0, 1) := by decide +kernel
theorem dX10_isRule_27 : decode cX10_isRule 27 = .ok (.getfield 16, 3) := by decide +kernel
theorem dX10_isRule_30 : decode cX10_isRule 30 = .ok (.iload_n 1, 1) := by decide +kernel
theorem dX10_isRule_31 : decode cX10_isRule 31 = .ok (.iconst 3, 1) := by decide +kernel
theorem dX10_isRule_32 : decode cX10_isRule 32 = .ok (.iadd, 1) := by decide +kernel
theorem dX10_isRule_33 : decode cX10_isRule 33 = .ok (.iaload, 1) := by decide +kernel
theorem dX10_isRule_34 : decode cX10_isRule 34 = .ok (.istore 5, 2) := by decide +kernel
theorem dX10_isRule_36 : decode cX10_isRule 36 = .ok (.iload_n 2, 1) := by decide +kernel
theorem dX10_isRule_37 : decode cX10_isRule 37 = .ok (.bipush 8, 2) := by decide +kernel
theorem dX10_isRule_39 : decode cX10_isRule 39 = .ok (.if_icmp .lt 9, 3) := by decide +kernel
theorem dX10_isRule_42 : decode cX10_isRule 42 = .ok (.iload_n 2, 1) := by decide +kernel
theorem dX10_isRule_43 : decode cX10_isRule 43 = .ok (.bipush 15, 2) := by decide +kernel
theorem dX10_isRule_45 : decode cX10_isRule 45 = .ok (.if_icmp .ne 54, 3) := by decide +kernel
theorem dX10_isRule_48 : decode cX10_isRule 48 = .ok (.iload_n 3, 1) := by decide +kernel
theorem dX10_isRule_49 : decode cX10_isRule 49 = .ok (.bipush 10, 2) := by decide +kernel
theorem dX10_isRule_51 : decode cX10_isRule 51 = .ok (.if_icmp .ge 48, 3) := by decide +kernel
theorem dX10_isRule_54 : decode cX10_isRule 54 = .ok (.iload_n 3, 1) := by decide +kernel
theorem dX10_isRule_55 : decode cX10_isRule 55 = .ok (.iconst 1, 1) := by decide +kernel
theorem dX10_isRule_56 : decode cX10_isRule 56 = .ok (.if_icmp .ne 10, 3) := by decide +kernel
theorem dX10_isRule_59 : decode cX10_isRule 59 = .ok (.iload 4, 2) := by decide +kernel
theorem dX10_isRule_61 : decode cX10_isRule 61 = .ok (.bipush 64, 2) := by decide +kernel
theorem dX10_isRule_63 : decode cX10_isRule 63 = .ok (.if_icmp .ge 36, 3) := by decide +kernel
theorem dX10_isRule_66 : decode cX10_isRule 66 = .ok (.iload_n 3, 1) := by decide +kernel
theorem dX10_isRule_67 : decode cX10_isRule 67 = .ok (.bipush 7, 2) := by decide +kernel
theorem dX10_isRule_69 : decode cX10_isRule 69 = .ok (.if_icmp .eq 9, 3) := by decide +kernel
theorem dX10_isRule_72 : decode cX10_isRule 72 = .ok (.iload_n 3, 1) := by decide +kernel
theorem dX10_isRule_73 : decode cX10_isRule 73 = .ok (.bipush 9, 2) := by decide +kernel
theorem dX10_isRule_75 : decode cX10_isRule 75 = .ok (.if_icmp .ne 9, 3) := by decide +kernel
theorem dX10_isRule_78 : decode cX10_isRule 78 = .ok (.iload 4, 2) := by decide +kernel
theorem dX10_isRule_80 : decode cX10_isRule 80 = .ok (.iconst 4, 1) := by decide +kernel
theorem dX10_isRule_81 : decode cX10_isRule 81 = .ok (.if_icmp .ge 18, 3) := by decide +kernel
theorem dX10_isRule_84 : decode cX10_isRule 84 = .ok (.iload_n 3, 1) := by decide +kernel
theorem dX10_isRule_85 : decode cX10_isRule 85 = .ok (.iconst 2, 1) := by decide +kernel
theorem dX10_isRule_86 : decode cX10_isRule 86 = .ok (.if_icmp .ne 9, 3) := by decide +kernel
theorem dX10_isRule_89 : decode cX10_isRule 89 = .ok (.iload 5, 2) := by decide +kernel
theorem dX10_isRule_91 : decode cX10_isRule 91 = .ok (.iconst 3, 1) := by decide +kernel
theorem dX10_isRule_92 : decode cX10_isRule 92 = .ok (.if_icmp .ge 7, 3) := by decide +kernel
theorem dX10_isRule_95 : decode cX10_isRule 95 = .ok (.iconst 1, 1) := by decide +kernel
theorem dX10_isRule_96 : decode cX10_isRule 96 = .ok (.goto 4, 3) := by decide +kernel
theorem dX10_isRule_99 : decode cX10_isRule 99 = .ok (.iconst 0, 1) := by decide +kernel
theorem dX10_isRule_100 : decode cX10_isRule 100 = .ok (.ireturn, 1) := by decide +kernel
theorem dX10_clause_0 : decode cX10_clause 0 = .ok (.bipush 64, 2) := by decide +kernel
theorem dX10_clause_2 : decode cX10_clause 2 = .ok (.iload_n 1, 1) := by decide +kernel
theorem dX10_clause_3 : decode cX10_clause 3 = .ok (.imul, 1) := by decide +kernel
theorem dX10_clause_4 : decode cX10_clause 4 = .ok (.istore_n 2, 1) := by decide +kernel
theorem dX10_clause_5 : decode cX10_clause 5 = .ok (.aload_n 0, 1) := by decide +kernel
theorem dX10_clause_6 : decode cX10_clause 6 = .ok (.getfield 13, 3) := by decide +kernel
theorem dX10_clause_9 : decode cX10_clause 9 = .ok (.iload_n 1, 1) := by decide +kernel
theorem dX10_clause_10 : decode cX10_clause 10 = .ok (.iaload, 1) := by decide +kernel
theorem dX10_clause_11 : decode cX10_clause 11 = .ok (.iconst 4, 1) := by decide +kernel
theorem dX10_clause_12 : decode cX10_clause 12 = .ok (.if_icmp .ge 5, 3) := by decide +kernel
theorem dX10_clause_15 : decode cX10_clause 15 = .ok (.iconst 1, 1) := by decide +kernel
theorem dX10_clause_16 : decode cX10_clause 16 = .ok (.ireturn, 1) := by decide +kernel
theorem dX10_clause_17 : decode cX10_clause 17 = .ok (.aload_n 0, 1) := by decide +kernel
theorem dX10_clause_18 : decode cX10_clause 18 = .ok (.getfield 16, 3) := by decide +kernel
theorem dX10_clause_21 : decode cX10_clause 21 = .ok (.iload_n 2, 1) := by decide +kernel
theorem dX10_clause_22 : decode cX10_clause 22 = .ok (.iaload, 1) := by decide +kernel
theorem dX10_clause_23 : decode cX10_clause 23 = .ok (.bipush 80, 2) := by decide +kernel
theorem dX10_clause_25 : decode cX10_clause 25 = .ok (.if_icmp .ne 16, 3) := by decide +kernel
theorem dX10_clause_28 : decode cX10_clause 28 = .ok (.aload_n 0, 1) := by decide +kernel
theorem dX10_clause_29 : decode cX10_clause 29 = .ok (.getfield 16, 3) := by decide +kernel
theorem dX10_clause_32 : decode cX10_clause 32 = .ok (.iload_n 2, 1) := by decide +kernel
theorem dX10_clause_33 : decode cX10_clause 33 = .ok (.iconst 1, 1) := by decide +kernel
theorem dX10_clause_34 : decode cX10_clause 34 = .ok (.iadd, 1) := by decide +kernel
theorem dX10_clause_35 : decode cX10_clause 35 = .ok (.iaload, 1) := by decide +kernel
theorem dX10_clause_36 : decode cX10_clause 36 = .ok (.bipush 82, 2) := by decide +kernel
theorem dX10_clause_38 : decode cX10_clause 38 = .ok (.if_icmp .eq 5, 3) := by decide +kernel
theorem dX10_clause_41 : decode cX10_clause 41 = .ok (.iconst 2, 1) := by decide +kernel
theorem dX10_clause_42 : decode cX10_clause 42 = .ok (.ireturn, 1) := by decide +kernel
theorem dX10_clause_43 : decode cX10_clause 43 = .ok (.aload_n 0, 1) := by decide +kernel
theorem dX10_clause_44 : decode cX10_clause 44 = .ok (.getfield 16, 3) := by decide +kernel
theorem dX10_clause_47 : decode cX10_clause 47 = .ok (.iload_n 2, 1) := by decide +kernel
theorem dX10_clause_48 : decode cX10_clause 48 = .ok (.iconst 2, 1) := by decide +kernel
theorem dX10_clause_49 : decode cX10_clause 49 = .ok (.iadd, 1) := by decide +kernel
theorem dX10_clause_50 : decode cX10_clause 50 = .ok (.iaload, 1) := by decide +kernel
theorem dX10_clause_51 : decode cX10_clause 51 = .ok (.istore_n 3, 1) := by decide +kernel
theorem dX10_clause_52 : decode cX10_clause 52 = .ok (.iload_n 3, 1) := by decide +kernel
theorem dX10_clause_53 : decode cX10_clause 53 = .ok (.i2l, 1) := by decide +kernel
theorem dX10_clause_54 : decode cX10_clause 54 = .ok (.lconst 1, 1) := by decide +kernel
theorem dX10_clause_55 : decode cX10_clause 55 = .ok (.ldc2_w 104, 3) := by decide +kernel
theorem dX10_clause_58 : decode cX10_clause 58 = .ok (.invokestatic 89, 3) := by decide +kernel
theorem dX10_clause_61 : decode cX10_clause 61 = .ok (.ifCond .ne 5, 3) := by decide +kernel
theorem dX10_clause_64 : decode cX10_clause 64 = .ok (.iconst 3, 1) := by decide +kernel
theorem dX10_clause_65 : decode cX10_clause 65 = .ok (.ireturn, 1) := by decide +kernel
theorem dX10_clause_66 : decode cX10_clause 66 = .ok (.aload_n 0, 1) := by decide +kernel
theorem dX10_clause_67 : decode cX10_clause 67 = .ok (.getfield 13, 3) := by decide +kernel
theorem dX10_clause_70 : decode cX10_clause 70 = .ok (.iload_n 1, 1) := by decide +kernel
theorem dX10_clause_71 : decode cX10_clause 71 = .ok (.iaload, 1) := by decide +kernel
theorem dX10_clause_72 : decode cX10_clause 72 = .ok (.iconst 4, 1) := by decide +kernel
theorem dX10_clause_73 : decode cX10_clause 73 = .ok (.iload_n 3, 1) := by decide +kernel
theorem dX10_clause_74 : decode cX10_clause 74 = .ok (.imul, 1) := by decide +kernel
theorem dX10_clause_75 : decode cX10_clause 75 = .ok (.iconst 4, 1) := by decide +kernel
theorem dX10_clause_76 : decode cX10_clause 76 = .ok (.iadd, 1) := by decide +kernel
theorem dX10_clause_77 : decode cX10_clause 77 = .ok (.if_icmp .eq 5, 3) := by decide +kernel
theorem dX10_clause_80 : decode cX10_clause 80 = .ok (.iconst 4, 1) := by decide +kernel
theorem dX10_clause_81 : decode cX10_clause 81 = .ok (.ireturn, 1) := by decide +kernel
theorem dX10_clause_82 : decode cX10_clause 82 = .ok (.aload_n 0, 1) := by decide +kernel
theorem dX10_clause_83 : decode cX10_clause 83 = .ok (.getfield 16, 3) := by decide +kernel
theorem dX10_clause_86 : decode cX10_clause 86 = .ok (.iload_n 2, 1) := by decide +kernel
theorem dX10_clause_87 : decode cX10_clause 87 = .ok (.iaload, 1) := by decide +kernel
theorem dX10_clause_88 : decode cX10_clause 88 = .ok (.aload_n 0, 1) := by decide +kernel
theorem dX10_clause_89 : decode cX10_clause 89 = .ok (.getfield 16, 3) := by decide +kernel
theorem dX10_clause_92 : decode cX10_clause 92 = .ok (.iload_n 2, 1) := by decide +kernel
theorem dX10_clause_93 : decode cX10_clause 93 = .ok (.iconst 1, 1) := by decide +kernel
theorem dX10_clause_94 : decode cX10_clause 94 = .ok (.iadd, 1) := by decide +kernel
theorem dX10_clause_95 : decode cX10_clause 95 = .ok (.iaload, 1) := by decide +kernel
theorem dX10_clause_96 : decode cX10_clause 96 = .ok (.iadd, 1) := by decide +kernel
theorem dX10_clause_97 : decode cX10_clause 97 = .ok (.iload_n 3, 1) := by decide +kernel
theorem dX10_clause_98 : decode cX10_clause 98 = .ok (.iadd, 1) := by decide +kernel
theorem dX10_clause_99 : decode cX10_clause 99 = .ok (.istore 4, 2) := by decide +kernel
theorem dX10_clause_101 : decode cX10_clause 101 = .ok (.iconst 0, 1) := by decide +kernel
theorem dX10_clause_102 : decode cX10_clause 102 = .ok (.istore 5, 2) := by decide +kernel
theorem dX10_clause_104 : decode cX10_clause 104 = .ok (.iload 5, 2) := by decide +kernel
theorem dX10_clause_106 : decode cX10_clause 106 = .ok (.iload_n 3, 1) := by decide +kernel
theorem dX10_clause_107 : decode cX10_clause 107 = .ok (.if_icmp .ge 26, 3) := by decide +kernel
theorem dX10_clause_110 : decode cX10_clause 110 = .ok (.aload_n 0, 1) := by decide +kernel
theorem dX10_clause_111 : decode cX10_clause 111 = .ok (.iload_n 2, 1) := by decide +kernel
theorem dX10_clause_112 : decode cX10_clause 112 = .ok (.iconst 3, 1) := by decide +kernel
theorem dX10_clause_113 : decode cX10_clause 113 = .ok (.iadd, 1) := by decide +kernel
theorem dX10_clause_114 : decode cX10_clause 114 = .ok (.iconst 4, 1) := by decide +kernel
theorem dX10_clause_115 : decode cX10_clause 115 = .ok (.iload 5, 2) := by decide +kernel
theorem dX10_clause_117 : decode cX10_clause 117 = .ok (.imul, 1) := by decide +kernel
theorem dX10_clause_118 : decode cX10_clause 118 = .ok (.iadd, 1) := by decide +kernel
theorem dX10_clause_119 : decode cX10_clause 119 = .ok (.invokevirtual 106, 3) := by decide +kernel
theorem dX10_clause_122 : decode cX10_clause 122 = .ok (.ifCond .ne 5, 3) := by decide +kernel
theorem dX10_clause_125 : decode cX10_clause 125 = .ok (.iconst 5, 1) := by decide +kernel
theorem dX10_clause_126 : decode cX10_clause 126 = .ok (.ireturn, 1) := by decide +kernel
theorem dX10_clause_127 : decode cX10_clause 127 = .ok (.iinc 5 1, 3) := by decide +kernel
theorem dX10_clause_130 : decode cX10_clause 130 = .ok (.goto (-26), 3) := by decide +kernel
theorem dX10_clause_133 : decode cX10_clause 133 = .ok (.iconst 3, 1) := by decide +kernel
theorem dX10_clause_134 : decode cX10_clause 134 = .ok (.istore 5, 2) := by decide +kernel
theorem dX10_clause_136 : decode cX10_clause 136 = .ok (.iload 5, 2) := by decide +kernel
theorem dX10_clause_138 : decode cX10_clause 138 = .ok (.iconst 4, 1) := by decide +kernel
theorem dX10_clause_139 : decode cX10_clause 139 = .ok (.iload_n 3, 1) := by decide +kernel
theorem dX10_clause_140 : decode cX10_clause 140 = .ok (.imul, 1) := by decide +kernel
theorem dX10_clause_141 : decode cX10_clause 141 = .ok (.iconst 3, 1) := by decide +kernel
theorem dX10_clause_142 : decode cX10_clause 142 = .ok (.iadd, 1) := by decide +kernel
theorem dX10_clause_143 : decode cX10_clause 143 = .ok (.if_icmp .ge 23, 3) := by decide +kernel
theorem dX10_clause_146 : decode cX10_clause 146 = .ok (.iload 4, 2) := by decide +kernel
theorem dX10_clause_148 : decode cX10_clause 148 = .ok (.aload_n 0, 1) := by decide +kernel
theorem dX10_clause_149 : decode cX10_clause 149 = .ok (.getfield 16, 3) := by decide +kernel
theorem dX10_clause_152 : decode cX10_clause 152 = .ok (.iload_n 2, 1) := by decide +kernel
theorem dX10_clause_153 : decode cX10_clause 153 = .ok (.iload 5, 2) := by decide +kernel
theorem dX10_clause_155 : decode cX10_clause 155 = .ok (.iadd, 1) := by decide +kernel
theorem dX10_clause_156 : decode cX10_clause 156 = .ok (.iaload, 1) := by decide +kernel
theorem dX10_clause_157 : decode cX10_clause 157 = .ok (.iadd, 1) := by decide +kernel
theorem dX10_clause_158 : decode cX10_clause 158 = .ok (.istore 4, 2) := by decide +kernel
theorem dX10_clause_160 : decode cX10_clause 160 = .ok (.iinc 5 1, 3) := by decide +kernel
theorem dX10_clause_163 : decode cX10_clause 163 = .ok (.goto (-27), 3) := by decide +kernel
theorem dX10_clause_166 : decode cX10_clause 166 = .ok (.iload 4, 2) := by decide +kernel
theorem dX10_clause_168 : decode cX10_clause 168 = .ok (.sipush 255, 3) := by decide +kernel
theorem dX10_clause_171 : decode cX10_clause 171 = .ok (.iand, 1) := by decide +kernel
theorem dX10_clause_172 : decode cX10_clause 172 = .ok (.aload_n 0, 1) := by decide +kernel
theorem dX10_clause_173 : decode cX10_clause 173 = .ok (.getfield 16, 3) := by decide +kernel
theorem dX10_clause_176 : decode cX10_clause 176 = .ok (.iload_n 2, 1) := by decide +kernel
theorem dX10_clause_177 : decode cX10_clause 177 = .ok (.iconst 4, 1) := by decide +kernel
theorem dX10_clause_178 : decode cX10_clause 178 = .ok (.iload_n 3, 1) := by decide +kernel
theorem dX10_clause_179 : decode cX10_clause 179 = .ok (.imul, 1) := by decide +kernel
theorem dX10_clause_180 : decode cX10_clause 180 = .ok (.iadd, 1) := by decide +kernel
theorem dX10_clause_181 : decode cX10_clause 181 = .ok (.iconst 3, 1) := by decide +kernel
theorem dX10_clause_182 : decode cX10_clause 182 = .ok (.iadd, 1) := by decide +kernel
theorem dX10_clause_183 : decode cX10_clause 183 = .ok (.iaload, 1) := by decide +kernel
theorem dX10_clause_184 : decode cX10_clause 184 = .ok (.if_icmp .ne 7, 3) := by decide +kernel
theorem dX10_clause_187 : decode cX10_clause 187 = .ok (.iconst 0, 1) := by decide +kernel
theorem dX10_clause_188 : decode cX10_clause 188 = .ok (.goto 5, 3) := by decide +kernel
theorem dX10_clause_191 : decode cX10_clause 191 = .ok (.bipush 6, 2) := by decide +kernel
theorem dX10_clause_193 : decode cX10_clause 193 = .ok (.ireturn, 1) := by decide +kernel
theorem dX10_judge_0 : decode cX10_judge 0 = .ok (.iload_n 1, 1) := by decide +kernel
theorem dX10_judge_1 : decode cX10_judge 1 = .ok (.invokestatic 100, 3) := by decide +kernel
theorem dX10_judge_4 : decode cX10_judge 4 = .ok (.ifCond .eq 11, 3) := by decide +kernel
theorem dX10_judge_7 : decode cX10_judge 7 = .ok (.aload_n 0, 1) := by decide +kernel
theorem dX10_judge_8 : decode cX10_judge 8 = .ok (.iload_n 1, 1) := by decide +kernel
theorem dX10_judge_9 : decode cX10_judge 9 = .ok (.invokevirtual 109, 3) := by decide +kernel
theorem dX10_judge_12 : decode cX10_judge 12 = .ok (.goto 5, 3) := by decide +kernel
theorem dX10_judge_15 : decode cX10_judge 15 = .ok (.bipush (-101), 2) := by decide +kernel
theorem dX10_judge_17 : decode cX10_judge 17 = .ok (.ireturn, 1) := by decide +kernel
theorem dX10_define_0 : decode cX10_define 0 = .ok (.iload_n 1, 1) := by decide +kernel
theorem dX10_define_1 : decode cX10_define 1 = .ok (.invokestatic 100, 3) := by decide +kernel
theorem dX10_define_4 : decode cX10_define 4 = .ok (.ifCond .ne 6, 3) := by decide +kernel
theorem dX10_define_7 : decode cX10_define 7 = .ok (.bipush (-101), 2) := by decide +kernel
theorem dX10_define_9 : decode cX10_define 9 = .ok (.ireturn, 1) := by decide +kernel
theorem dX10_define_10 : decode cX10_define 10 = .ok (.aload_n 0, 1) := by decide +kernel
theorem dX10_define_11 : decode cX10_define 11 = .ok (.iload_n 1, 1) := by decide +kernel
theorem dX10_define_12 : decode cX10_define 12 = .ok (.invokevirtual 109, 3) := by decide +kernel
theorem dX10_define_15 : decode cX10_define 15 = .ok (.istore_n 2, 1) := by decide +kernel
theorem dX10_define_16 : decode cX10_define 16 = .ok (.iload_n 2, 1) := by decide +kernel
theorem dX10_define_17 : decode cX10_define 17 = .ok (.ifCond .le 8, 3) := by decide +kernel
theorem dX10_define_20 : decode cX10_define 20 = .ok (.bipush (-10), 2) := by decide +kernel
theorem dX10_define_22 : decode cX10_define 22 = .ok (.iload_n 2, 1) := by decide +kernel
theorem dX10_define_23 : decode cX10_define 23 = .ok (.isub, 1) := by decide +kernel
theorem dX10_define_24 : decode cX10_define 24 = .ok (.ireturn, 1) := by decide +kernel
theorem dX10_define_25 : decode cX10_define 25 = .ok (.aload_n 0, 1) := by decide +kernel
theorem dX10_define_26 : decode cX10_define 26 = .ok (.getfield 113, 3) := by decide +kernel
theorem dX10_define_29 : decode cX10_define 29 = .ok (.bipush 6, 2) := by decide +kernel
theorem dX10_define_31 : decode cX10_define 31 = .ok (.if_icmp .ne 6, 3) := by decide +kernel
theorem dX10_define_34 : decode cX10_define 34 = .ok (.bipush (-104), 2) := by decide +kernel
theorem dX10_define_36 : decode cX10_define 36 = .ok (.ireturn, 1) := by decide +kernel
theorem dX10_define_37 : decode cX10_define 37 = .ok (.aload_n 0, 1) := by decide +kernel
theorem dX10_define_38 : decode cX10_define 38 = .ok (.getfield 19, 3) := by decide +kernel
theorem dX10_define_41 : decode cX10_define 41 = .ok (.iload_n 1, 1) := by decide +kernel
theorem dX10_define_42 : decode cX10_define 42 = .ok (.baload, 1) := by decide +kernel
theorem dX10_define_43 : decode cX10_define 43 = .ok (.ifCond .eq 29, 3) := by decide +kernel
theorem dX10_define_46 : decode cX10_define 46 = .ok (.aload_n 0, 1) := by decide +kernel
theorem dX10_define_47 : decode cX10_define 47 = .ok (.getfield 23, 3) := by decide +kernel
theorem dX10_define_50 : decode cX10_define 50 = .ok (.iload_n 1, 1) := by decide +kernel
theorem dX10_define_51 : decode cX10_define 51 = .ok (.baload, 1) := by decide +kernel
theorem dX10_define_52 : decode cX10_define 52 = .ok (.ifCond .eq 8, 3) := by decide +kernel
theorem dX10_define_55 : decode cX10_define 55 = .ok (.bipush (-32), 2) := by decide +kernel
theorem dX10_define_57 : decode cX10_define 57 = .ok (.goto 5, 3) := by decide +kernel
theorem dX10_define_60 : decode cX10_define 60 = .ok (.bipush (-31), 2) := by decide +kernel
theorem dX10_define_62 : decode cX10_define 62 = .ok (.istore_n 3, 1) := by decide +kernel
theorem dX10_define_63 : decode cX10_define 63 = .ok (.aload_n 0, 1) := by decide +kernel
theorem dX10_define_64 : decode cX10_define 64 = .ok (.getfield 23, 3) := by decide +kernel
theorem dX10_define_67 : decode cX10_define 67 = .ok (.iload_n 1, 1) := by decide +kernel
theorem dX10_define_68 : decode cX10_define 68 = .ok (.iconst 1, 1) := by decide +kernel
theorem dX10_define_69 : decode cX10_define 69 = .ok (.bastore, 1) := by decide +kernel
theorem dX10_define_70 : decode cX10_define 70 = .ok (.iload_n 3, 1) := by decide +kernel
theorem dX10_define_71 : decode cX10_define 71 = .ok (.ireturn, 1) := by decide +kernel
theorem dX10_define_72 : decode cX10_define 72 = .ok (.aload_n 0, 1) := by decide +kernel
theorem dX10_define_73 : decode cX10_define 73 = .ok (.getfield 113, 3) := by decide +kernel
theorem dX10_define_76 : decode cX10_define 76 = .ok (.istore_n 3, 1) := by decide +kernel
theorem dX10_define_77 : decode cX10_define 77 = .ok (.aload_n 0, 1) := by decide +kernel
theorem dX10_define_78 : decode cX10_define 78 = .ok (.getfield 26, 3) := by decide +kernel
theorem dX10_define_81 : decode cX10_define 81 = .ok (.iload_n 3, 1) := by decide +kernel
theorem dX10_define_82 : decode cX10_define 82 = .ok (.iload_n 1, 1) := by decide +kernel
theorem dX10_define_83 : decode cX10_define 83 = .ok (.iastore, 1) := by decide +kernel
theorem dX10_define_84 : decode cX10_define 84 = .ok (.aload_n 0, 1) := by decide +kernel
theorem dX10_define_85 : decode cX10_define 85 = .ok (.getfield 29, 3) := by decide +kernel
theorem dX10_define_88 : decode cX10_define 88 = .ok (.iload_n 3, 1) := by decide +kernel
theorem dX10_define_89 : decode cX10_define 89 = .ok (.aload_n 0, 1) := by decide +kernel
theorem dX10_define_90 : decode cX10_define 90 = .ok (.getfield 16, 3) := by decide +kernel
theorem dX10_define_93 : decode cX10_define 93 = .ok (.bipush 64, 2) := by decide +kernel
theorem dX10_define_95 : decode cX10_define 95 = .ok (.iload_n 1, 1) := by decide +kernel
theorem dX10_define_96 : decode cX10_define 96 = .ok (.imul, 1) := by decide +kernel
theorem dX10_define_97 : decode cX10_define 97 = .ok (.iconst 2, 1) := by decide +kernel
theorem dX10_define_98 : decode cX10_define 98 = .ok (.iadd, 1) := by decide +kernel
theorem dX10_define_99 : decode cX10_define 99 = .ok (.iaload, 1) := by decide +kernel
theorem dX10_define_100 : decode cX10_define 100 = .ok (.iastore, 1) := by decide +kernel
theorem dX10_define_101 : decode cX10_define 101 = .ok (.iconst 0, 1) := by decide +kernel
theorem dX10_define_102 : decode cX10_define 102 = .ok (.istore 4, 2) := by decide +kernel
theorem dX10_define_104 : decode cX10_define 104 = .ok (.iload 4, 2) := by decide +kernel
theorem dX10_define_106 : decode cX10_define 106 = .ok (.iconst 4, 1) := by decide +kernel
theorem dX10_define_107 : decode cX10_define 107 = .ok (.aload_n 0, 1) := by decide +kernel
theorem dX10_define_108 : decode cX10_define 108 = .ok (.getfield 29, 3) := by decide +kernel
theorem dX10_define_111 : decode cX10_define 111 = .ok (.iload_n 3, 1) := by decide +kernel
theorem dX10_define_112 : decode cX10_define 112 = .ok (.iaload, 1) := by decide +kernel
theorem dX10_define_113 : decode cX10_define 113 = .ok (.imul, 1) := by decide +kernel
theorem dX10_define_114 : decode cX10_define 114 = .ok (.if_icmp .ge 35, 3) := by decide +kernel
theorem dX10_define_117 : decode cX10_define 117 = .ok (.aload_n 0, 1) := by decide +kernel
theorem dX10_define_118 : decode cX10_define 118 = .ok (.getfield 32, 3) := by decide +kernel
theorem dX10_define_121 : decode cX10_define 121 = .ok (.bipush 48, 2) := by decide +kernel
theorem dX10_define_123 : decode cX10_define 123 = .ok (.iload_n 3, 1) := by decide +kernel
theorem dX10_define_124 : decode cX10_define 124 = .ok (.imul, 1) := by decide +kernel
theorem dX10_define_125 : decode cX10_define 125 = .ok (.iload 4, 2) := by decide +kernel
theorem dX10_define_127 : decode cX10_define 127 = .ok (.iadd, 1) := by decide +kernel
theorem dX10_define_128 : decode cX10_define 128 = .ok (.aload_n 0, 1) := by decide +kernel
theorem dX10_define_129 : decode cX10_define 129 = .ok (.getfield 16, 3) := by decide +kernel
theorem dX10_define_132 : decode cX10_define 132 = .ok (.bipush 64, 2) := by decide +kernel
theorem dX10_define_134 : decode cX10_define 134 = .ok (.iload_n 1, 1) := by decide +kernel
theorem dX10_define_135 : decode cX10_define 135 = .ok (.imul, 1) := by decide +kernel
theorem dX10_define_136 : decode cX10_define 136 = .ok (.iconst 3, 1) := by decide +kernel
theorem dX10_define_137 : decode cX10_define 137 = .ok (.iadd, 1) := by decide +kernel
theorem dX10_define_138 : decode cX10_define 138 = .ok (.iload 4, 2) := by decide +kernel
theorem dX10_define_140 : decode cX10_define 140 = .ok (.iadd, 1) := by decide +kernel
theorem dX10_define_141 : decode cX10_define 141 = .ok (.iaload, 1) := by decide +kernel
theorem dX10_define_142 : decode cX10_define 142 = .ok (.iastore, 1) := by decide +kernel
theorem dX10_define_143 : decode cX10_define 143 = .ok (.iinc 4 1, 3) := by decide +kernel
theorem dX10_define_146 : decode cX10_define 146 = .ok (.goto (-42), 3) := by decide +kernel
theorem dX10_define_149 : decode cX10_define 149 = .ok (.aload_n 0, 1) := by decide +kernel
theorem dX10_define_150 : decode cX10_define 150 = .ok (.getfield 35, 3) := by decide +kernel
theorem dX10_define_153 : decode cX10_define 153 = .ok (.iload_n 3, 1) := by decide +kernel
theorem dX10_define_154 : decode cX10_define 154 = .ok (.iconst 0, 1) := by decide +kernel
theorem dX10_define_155 : decode cX10_define 155 = .ok (.iastore, 1) := by decide +kernel
theorem dX10_define_156 : decode cX10_define 156 = .ok (.aload_n 0, 1) := by decide +kernel
theorem dX10_define_157 : decode cX10_define 157 = .ok (.getfield 41, 3) := by decide +kernel
theorem dX10_define_160 : decode cX10_define 160 = .ok (.iload_n 3, 1) := by decide +kernel
theorem dX10_define_161 : decode cX10_define 161 = .ok (.iconst 0, 1) := by decide +kernel
theorem dX10_define_162 : decode cX10_define 162 = .ok (.bastore, 1) := by decide +kernel
theorem dX10_define_163 : decode cX10_define 163 = .ok (.aload_n 0, 1) := by decide +kernel
theorem dX10_define_164 : decode cX10_define 164 = .ok (.getfield 44, 3) := by decide +kernel
theorem dX10_define_167 : decode cX10_define 167 = .ok (.iload_n 3, 1) := by decide +kernel
theorem dX10_define_168 : decode cX10_define 168 = .ok (.iconst 0, 1) := by decide +kernel
theorem dX10_define_169 : decode cX10_define 169 = .ok (.iastore, 1) := by decide +kernel
theorem dX10_define_170 : decode cX10_define 170 = .ok (.aload_n 0, 1) := by decide +kernel
theorem dX10_define_171 : decode cX10_define 171 = .ok (.dup, 1) := by decide +kernel
theorem dX10_define_172 : decode cX10_define 172 = .ok (.getfield 113, 3) := by decide +kernel
theorem dX10_define_175 : decode cX10_define 175 = .ok (.iconst 1, 1) := by decide +kernel
theorem dX10_define_176 : decode cX10_define 176 = .ok (.iadd, 1) := by decide +kernel
theorem dX10_define_177 : decode cX10_define 177 = .ok (.putfield 113, 3) := by decide +kernel
theorem dX10_define_180 : decode cX10_define 180 = .ok (.iload_n 3, 1) := by decide +kernel
theorem dX10_define_181 : decode cX10_define 181 = .ok (.ireturn, 1) := by decide +kernel
theorem dX10_find_0 : decode cX10_find 0 = .ok (.iconst (-1), 1) := by decide +kernel
theorem dX10_find_1 : decode cX10_find 1 = .ok (.istore_n 2, 1) := by decide +kernel
theorem dX10_find_2 : decode cX10_find 2 = .ok (.iconst 0, 1) := by decide +kernel
theorem dX10_find_3 : decode cX10_find 3 = .ok (.istore_n 3, 1) := by decide +kernel
theorem dX10_find_4 : decode cX10_find 4 = .ok (.iload_n 3, 1) := by decide +kernel
theorem dX10_find_5 : decode cX10_find 5 = .ok (.aload_n 0, 1) := by decide +kernel
theorem dX10_find_6 : decode cX10_find 6 = .ok (.getfield 80, 3) := by decide +kernel
theorem dX10_find_9 : decode cX10_find 9 = .ok (.if_icmp .ge 25, 3) := by decide +kernel
theorem dX10_find_12 : decode cX10_find 12 = .ok (.aload_n 0, 1) := by decide +kernel
theorem dX10_find_13 : decode cX10_find 13 = .ok (.getfield 47, 3) := by decide +kernel
theorem dX10_find_16 : decode cX10_find 16 = .ok (.iload_n 3, 1) := by decide +kernel
theorem dX10_find_17 : decode cX10_find 17 = .ok (.iaload, 1) := by decide +kernel
theorem dX10_find_18 : decode cX10_find 18 = .ok (.iload_n 1, 1) := by decide +kernel
theorem dX10_find_19 : decode cX10_find 19 = .ok (.if_icmp .ne 7, 3) := by decide +kernel
theorem dX10_find_22 : decode cX10_find 22 = .ok (.iload_n 3, 1) := by decide +kernel
theorem dX10_find_23 : decode cX10_find 23 = .ok (.goto 4, 3) := by decide +kernel
theorem dX10_find_26 : decode cX10_find 26 = .ok (.iload_n 2, 1) := by decide +kernel
theorem dX10_find_27 : decode cX10_find 27 = .ok (.istore_n 2, 1) := by decide +kernel
theorem dX10_find_28 : decode cX10_find 28 = .ok (.iinc 3 1, 3) := by decide +kernel
theorem dX10_find_31 : decode cX10_find 31 = .ok (.goto (-27), 3) := by decide +kernel
theorem dX10_find_34 : decode cX10_find 34 = .ok (.iload_n 2, 1) := by decide +kernel
theorem dX10_find_35 : decode cX10_find 35 = .ok (.ireturn, 1) := by decide +kernel
theorem dX10_come_0 : decode cX10_come 0 = .ok (.aload_n 0, 1) := by decide +kernel
theorem dX10_come_1 : decode cX10_come 1 = .ok (.getfield 47, 3) := by decide +kernel
theorem dX10_come_4 : decode cX10_come 4 = .ok (.aload_n 0, 1) := by decide +kernel
theorem dX10_come_5 : decode cX10_come 5 = .ok (.getfield 80, 3) := by decide +kernel
theorem dX10_come_8 : decode cX10_come 8 = .ok (.iload_n 1, 1) := by decide +kernel
theorem dX10_come_9 : decode cX10_come 9 = .ok (.iastore, 1) := by decide +kernel
theorem dX10_come_10 : decode cX10_come 10 = .ok (.aload_n 0, 1) := by decide +kernel
theorem dX10_come_11 : decode cX10_come 11 = .ok (.getfield 50, 3) := by decide +kernel
theorem dX10_come_14 : decode cX10_come 14 = .ok (.aload_n 0, 1) := by decide +kernel
theorem dX10_come_15 : decode cX10_come 15 = .ok (.getfield 80, 3) := by decide +kernel
theorem dX10_come_18 : decode cX10_come 18 = .ok (.iload_n 2, 1) := by decide +kernel
theorem dX10_come_19 : decode cX10_come 19 = .ok (.iastore, 1) := by decide +kernel
theorem dX10_come_20 : decode cX10_come 20 = .ok (.aload_n 0, 1) := by decide +kernel
theorem dX10_come_21 : decode cX10_come 21 = .ok (.getfield 56, 3) := by decide +kernel
theorem dX10_come_24 : decode cX10_come 24 = .ok (.aload_n 0, 1) := by decide +kernel
theorem dX10_come_25 : decode cX10_come 25 = .ok (.getfield 80, 3) := by decide +kernel
theorem dX10_come_28 : decode cX10_come 28 = .ok (.iload_n 3, 1) := by decide +kernel
theorem dX10_come_29 : decode cX10_come 29 = .ok (.iastore, 1) := by decide +kernel
theorem dX10_come_30 : decode cX10_come 30 = .ok (.aload_n 0, 1) := by decide +kernel
theorem dX10_come_31 : decode cX10_come 31 = .ok (.getfield 59, 3) := by decide +kernel
theorem dX10_come_34 : decode cX10_come 34 = .ok (.aload_n 0, 1) := by decide +kernel
theorem dX10_come_35 : decode cX10_come 35 = .ok (.getfield 80, 3) := by decide +kernel
theorem dX10_come_38 : decode cX10_come 38 = .ok (.iload 4, 2) := by decide +kernel
theorem dX10_come_40 : decode cX10_come 40 = .ok (.iastore, 1) := by decide +kernel
theorem dX10_come_41 : decode cX10_come 41 = .ok (.aload_n 0, 1) := by decide +kernel
theorem dX10_come_42 : decode cX10_come 42 = .ok (.getfield 53, 3) := by decide +kernel
theorem dX10_come_45 : decode cX10_come 45 = .ok (.aload_n 0, 1) := by decide +kernel
theorem dX10_come_46 : decode cX10_come 46 = .ok (.getfield 80, 3) := by decide +kernel
theorem dX10_come_49 : decode cX10_come 49 = .ok (.iconst 1, 1) := by decide +kernel
theorem dX10_come_50 : decode cX10_come 50 = .ok (.bastore, 1) := by decide +kernel
theorem dX10_come_51 : decode cX10_come 51 = .ok (.aload_n 0, 1) := by decide +kernel
theorem dX10_come_52 : decode cX10_come 52 = .ok (.dup, 1) := by decide +kernel
theorem dX10_come_53 : decode cX10_come 53 = .ok (.getfield 80, 3) := by decide +kernel
theorem dX10_come_56 : decode cX10_come 56 = .ok (.iconst 1, 1) := by decide +kernel
theorem dX10_come_57 : decode cX10_come 57 = .ok (.iadd, 1) := by decide +kernel
theorem dX10_come_58 : decode cX10_come 58 = .ok (.putfield 80, 3) := by decide +kernel
theorem dX10_come_61 : decode cX10_come 61 = .ok (.return_, 1) := by decide +kernel
theorem dX10_unit_0 : decode cX10_unit 0 = .ok (.iload_n 1, 1) := by decide +kernel
theorem dX10_unit_1 : decode cX10_unit 1 = .ok (.i2l, 1) := by decide +kernel
theorem dX10_unit_2 : decode cX10_unit 2 = .ok (.lconst 0, 1) := by decide +kernel
theorem dX10_unit_3 : decode cX10_unit 3 = .ok (.ldc2_w 116, 3) := by decide +kernel
theorem dX10_unit_6 : decode cX10_unit 6 = .ok (.invokestatic 89, 3) := by decide +kernel
theorem dX10_unit_9 : decode cX10_unit 9 = .ok (.ifCond .eq 15, 3) := by decide +kernel
theorem dX10_unit_12 : decode cX10_unit 12 = .ok (.iload_n 2, 1) := by decide +kernel
theorem dX10_unit_13 : decode cX10_unit 13 = .ok (.i2l, 1) := by decide +kernel
theorem dX10_unit_14 : decode cX10_unit 14 = .ok (.lconst 0, 1) := by decide +kernel
theorem dX10_unit_15 : decode cX10_unit 15 = .ok (.ldc2_w 96, 3) := by decide +kernel
theorem dX10_unit_18 : decode cX10_unit 18 = .ok (.invokestatic 89, 3) := by decide +kernel
theorem dX10_unit_21 : decode cX10_unit 21 = .ok (.ifCond .ne 6, 3) := by decide +kernel
theorem dX10_unit_24 : decode cX10_unit 24 = .ok (.bipush (-102), 2) := by decide +kernel
theorem dX10_unit_26 : decode cX10_unit 26 = .ok (.ireturn, 1) := by decide +kernel
theorem dX10_unit_27 : decode cX10_unit 27 = .ok (.aload_n 0, 1) := by decide +kernel
theorem dX10_unit_28 : decode cX10_unit 28 = .ok (.iload_n 1, 1) := by decide +kernel
theorem dX10_unit_29 : decode cX10_unit 29 = .ok (.invokevirtual 118, 3) := by decide +kernel
theorem dX10_unit_32 : decode cX10_unit 32 = .ok (.ifCond .lt 6, 3) := by decide +kernel
theorem dX10_unit_35 : decode cX10_unit 35 = .ok (.bipush (-103), 2) := by decide +kernel
theorem dX10_unit_37 : decode cX10_unit 37 = .ok (.ireturn, 1) := by decide +kernel
theorem dX10_unit_38 : decode cX10_unit 38 = .ok (.aload_n 0, 1) := by decide +kernel
theorem dX10_unit_39 : decode cX10_unit 39 = .ok (.getfield 80, 3) := by decide +kernel
theorem dX10_unit_42 : decode cX10_unit 42 = .ok (.bipush 40, 2) := by decide +kernel
theorem dX10_unit_44 : decode cX10_unit 44 = .ok (.if_icmp .ne 6, 3) := by decide +kernel
theorem dX10_unit_47 : decode cX10_unit 47 = .ok (.bipush (-104), 2) := by decide +kernel
theorem dX10_unit_49 : decode cX10_unit 49 = .ok (.ireturn, 1) := by decide +kernel
theorem dX10_unit_50 : decode cX10_unit 50 = .ok (.aload_n 0, 1) := by decide +kernel
theorem dX10_unit_51 : decode cX10_unit 51 = .ok (.iload_n 1, 1) := by decide +kernel
theorem dX10_unit_52 : decode cX10_unit 52 = .ok (.iload_n 2, 1) := by decide +kernel
theorem dX10_unit_53 : decode cX10_unit 53 = .ok (.iconst (-1), 1) := by decide +kernel
theorem dX10_unit_54 : decode cX10_unit 54 = .ok (.iconst 0, 1) := by decide +kernel
theorem dX10_unit_55 : decode cX10_unit 55 = .ok (.invokevirtual 121, 3) := by decide +kernel
theorem dX10_unit_58 : decode cX10_unit 58 = .ok (.aload_n 0, 1) := by decide +kernel
theorem dX10_unit_59 : decode cX10_unit 59 = .ok (.getfield 80, 3) := by decide +kernel
theorem dX10_unit_62 : decode cX10_unit 62 = .ok (.iconst 1, 1) := by decide +kernel
theorem dX10_unit_63 : decode cX10_unit 63 = .ok (.isub, 1) := by decide +kernel
theorem dX10_unit_64 : decode cX10_unit 64 = .ok (.ireturn, 1) := by decide +kernel
theorem dX10_isUnit_0 : decode cX10_isUnit 0 = .ok (.iload_n 1, 1) := by decide +kernel
theorem dX10_isUnit_1 : decode cX10_isUnit 1 = .ok (.i2l, 1) := by decide +kernel
theorem dX10_isUnit_2 : decode cX10_isUnit 2 = .ok (.lconst 0, 1) := by decide +kernel
theorem dX10_isUnit_3 : decode cX10_isUnit 3 = .ok (.aload_n 0, 1) := by decide +kernel
theorem dX10_isUnit_4 : decode cX10_isUnit 4 = .ok (.getfield 80, 3) := by decide +kernel
theorem dX10_isUnit_7 : decode cX10_isUnit 7 = .ok (.iconst 1, 1) := by decide +kernel
theorem dX10_isUnit_8 : decode cX10_isUnit 8 = .ok (.isub, 1) := by decide +kernel
theorem dX10_isUnit_9 : decode cX10_isUnit 9 = .ok (.i2l, 1) := by decide +kernel
theorem dX10_isUnit_10 : decode cX10_isUnit 10 = .ok (.invokestatic 89, 3) := by decide +kernel
theorem dX10_isUnit_13 : decode cX10_isUnit 13 = .ok (.ireturn, 1) := by decide +kernel
theorem dX10_marks_0 : decode cX10_marks 0 = .ok (.aload_n 0, 1) := by decide +kernel
theorem dX10_marks_1 : decode cX10_marks 1 = .ok (.iload_n 1, 1) := by decide +kernel
theorem dX10_marks_2 : decode cX10_marks 2 = .ok (.invokevirtual 125, 3) := by decide +kernel
theorem dX10_marks_5 : decode cX10_marks 5 = .ok (.ifCond .ne 6, 3) := by decide +kernel
theorem dX10_marks_8 : decode cX10_marks 8 = .ok (.bipush (-101), 2) := by decide +kernel
theorem dX10_marks_10 : decode cX10_marks 10 = .ok (.ireturn, 1) := by decide +kernel
theorem dX10_marks_11 : decode cX10_marks 11 = .ok (.iload_n 2, 1) := by decide +kernel
theorem dX10_marks_12 : decode cX10_marks 12 = .ok (.i2l, 1) := by decide +kernel
theorem dX10_marks_13 : decode cX10_marks 13 = .ok (.lconst 0, 1) := by decide +kernel
theorem dX10_marks_14 : decode cX10_marks 14 = .ok (.ldc2_w 96, 3) := by decide +kernel
theorem dX10_marks_17 : decode cX10_marks 17 = .ok (.invokestatic 89, 3) := by decide +kernel
theorem dX10_marks_20 : decode cX10_marks 20 = .ok (.ifCond .ne 6, 3) := by decide +kernel
theorem dX10_marks_23 : decode cX10_marks 23 = .ok (.bipush (-102), 2) := by decide +kernel
theorem dX10_marks_25 : decode cX10_marks 25 = .ok (.ireturn, 1) := by decide +kernel
theorem dX10_marks_26 : decode cX10_marks 26 = .ok (.aload_n 0, 1) := by decide +kernel
theorem dX10_marks_27 : decode cX10_marks 27 = .ok (.getfield 50, 3) := by decide +kernel
theorem dX10_marks_30 : decode cX10_marks 30 = .ok (.iload_n 1, 1) := by decide +kernel
theorem dX10_marks_31 : decode cX10_marks 31 = .ok (.iaload, 1) := by decide +kernel
theorem dX10_marks_32 : decode cX10_marks 32 = .ok (.istore_n 3, 1) := by decide +kernel
theorem dX10_marks_33 : decode cX10_marks 33 = .ok (.aload_n 0, 1) := by decide +kernel
theorem dX10_marks_34 : decode cX10_marks 34 = .ok (.getfield 50, 3) := by decide +kernel
theorem dX10_marks_37 : decode cX10_marks 37 = .ok (.iload_n 1, 1) := by decide +kernel
theorem dX10_marks_38 : decode cX10_marks 38 = .ok (.iload_n 2, 1) := by decide +kernel
theorem dX10_marks_39 : decode cX10_marks 39 = .ok (.iastore, 1) := by decide +kernel
theorem dX10_marks_40 : decode cX10_marks 40 = .ok (.aload_n 0, 1) := by decide +kernel
theorem dX10_marks_41 : decode cX10_marks 41 = .ok (.getfield 53, 3) := by decide +kernel
theorem dX10_marks_44 : decode cX10_marks 44 = .ok (.iload_n 1, 1) := by decide +kernel
theorem dX10_marks_45 : decode cX10_marks 45 = .ok (.iconst 1, 1) := by decide +kernel
theorem dX10_marks_46 : decode cX10_marks 46 = .ok (.bastore, 1) := by decide +kernel
theorem dX10_marks_47 : decode cX10_marks 47 = .ok (.iload_n 3, 1) := by decide +kernel
theorem dX10_marks_48 : decode cX10_marks 48 = .ok (.ireturn, 1) := by decide +kernel
theorem dX10_anew_0 : decode cX10_anew 0 = .ok (.iconst 0, 1) := by decide +kernel
theorem dX10_anew_1 : decode cX10_anew 1 = .ok (.istore_n 1, 1) := by decide +kernel
theorem dX10_anew_2 : decode cX10_anew 2 = .ok (.iconst 0, 1) := by decide +kernel
theorem dX10_anew_3 : decode cX10_anew 3 = .ok (.istore_n 2, 1) := by decide +kernel
theorem dX10_anew_4 : decode cX10_anew 4 = .ok (.iload_n 2, 1) := by decide +kernel
theorem dX10_anew_5 : decode cX10_anew 5 = .ok (.aload_n 0, 1) := by decide +kernel
theorem dX10_anew_6 : decode cX10_anew 6 = .ok (.getfield 80, 3) := by decide +kernel
theorem dX10_anew_9 : decode cX10_anew 9 = .ok (.if_icmp .ge 33, 3) := by decide +kernel
theorem dX10_anew_12 : decode cX10_anew 12 = .ok (.iload_n 1, 1) := by decide +kernel
theorem dX10_anew_13 : decode cX10_anew 13 = .ok (.aload_n 0, 1) := by decide +kernel
theorem dX10_anew_14 : decode cX10_anew 14 = .ok (.getfield 53, 3) := by decide +kernel
theorem dX10_anew_17 : decode cX10_anew 17 = .ok (.iload_n 2, 1) := by decide +kernel
theorem dX10_anew_18 : decode cX10_anew 18 = .ok (.baload, 1) := by decide +kernel
theorem dX10_anew_19 : decode cX10_anew 19 = .ok (.ifCond .eq 7, 3) := by decide +kernel
theorem dX10_anew_22 : decode cX10_anew 22 = .ok (.iconst 0, 1) := by decide +kernel
theorem dX10_anew_23 : decode cX10_anew 23 = .ok (.goto 4, 3) := by decide +kernel
theorem dX10_anew_26 : decode cX10_anew 26 = .ok (.iconst 1, 1) := by decide +kernel
theorem dX10_anew_27 : decode cX10_anew 27 = .ok (.iadd, 1) := by decide +kernel
theorem dX10_anew_28 : decode cX10_anew 28 = .ok (.istore_n 1, 1) := by decide +kernel
theorem dX10_anew_29 : decode cX10_anew 29 = .ok (.aload_n 0, 1) := by decide +kernel
theorem dX10_anew_30 : decode cX10_anew 30 = .ok (.getfield 53, 3) := by decide +kernel
theorem dX10_anew_33 : decode cX10_anew 33 = .ok (.iload_n 2, 1) := by decide +kernel
theorem dX10_anew_34 : decode cX10_anew 34 = .ok (.iconst 1, 1) := by decide +kernel
theorem dX10_anew_35 : decode cX10_anew 35 = .ok (.bastore, 1) := by decide +kernel
theorem dX10_anew_36 : decode cX10_anew 36 = .ok (.iinc 2 1, 3) := by decide +kernel
theorem dX10_anew_39 : decode cX10_anew 39 = .ok (.goto (-35), 3) := by decide +kernel
theorem dX10_anew_42 : decode cX10_anew 42 = .ok (.iload_n 1, 1) := by decide +kernel
theorem dX10_anew_43 : decode cX10_anew 43 = .ok (.ireturn, 1) := by decide +kernel
theorem dX10_option_0 : decode cX10_option 0 = .ok (.iload_n 1, 1) := by decide +kernel
theorem dX10_option_1 : decode cX10_option 1 = .ok (.i2l, 1) := by decide +kernel
theorem dX10_option_2 : decode cX10_option 2 = .ok (.lconst 0, 1) := by decide +kernel
theorem dX10_option_3 : decode cX10_option 3 = .ok (.ldc2_w 128, 3) := by decide +kernel
theorem dX10_option_6 : decode cX10_option 6 = .ok (.invokestatic 89, 3) := by decide +kernel
theorem dX10_option_9 : decode cX10_option 9 = .ok (.ifCond .ne 6, 3) := by decide +kernel
theorem dX10_option_12 : decode cX10_option 12 = .ok (.bipush (-102), 2) := by decide +kernel
theorem dX10_option_14 : decode cX10_option 14 = .ok (.ireturn, 1) := by decide +kernel
theorem dX10_option_15 : decode cX10_option 15 = .ok (.aload_n 0, 1) := by decide +kernel
theorem dX10_option_16 : decode cX10_option 16 = .ok (.getfield 62, 3) := by decide +kernel
theorem dX10_option_19 : decode cX10_option 19 = .ok (.iload_n 1, 1) := by decide +kernel
theorem dX10_option_20 : decode cX10_option 20 = .ok (.iaload, 1) := by decide +kernel
theorem dX10_option_21 : decode cX10_option 21 = .ok (.istore_n 3, 1) := by decide +kernel
theorem dX10_option_22 : decode cX10_option 22 = .ok (.aload_n 0, 1) := by decide +kernel
theorem dX10_option_23 : decode cX10_option 23 = .ok (.getfield 62, 3) := by decide +kernel
theorem dX10_option_26 : decode cX10_option 26 = .ok (.iload_n 1, 1) := by decide +kernel
theorem dX10_option_27 : decode cX10_option 27 = .ok (.iload_n 2, 1) := by decide +kernel
theorem dX10_option_28 : decode cX10_option 28 = .ok (.iastore, 1) := by decide +kernel
theorem dX10_option_29 : decode cX10_option 29 = .ok (.iload_n 3, 1) := by decide +kernel
theorem dX10_option_30 : decode cX10_option 30 = .ok (.ireturn, 1) := by decide +kernel
theorem dX10_pass_0 : decode cX10_pass 0 = .ok (.aload_n 0, 1) := by decide +kernel
theorem dX10_pass_1 : decode cX10_pass 1 = .ok (.getfield 130, 3) := by decide +kernel
theorem dX10_pass_4 : decode cX10_pass 4 = .ok (.ifCond .eq 7, 3) := by decide +kernel
theorem dX10_pass_7 : decode cX10_pass 7 = .ok (.iconst 1, 1) := by decide +kernel
theorem dX10_pass_8 : decode cX10_pass 8 = .ok (.goto 4, 3) := by decide +kernel
theorem dX10_pass_11 : decode cX10_pass 11 = .ok (.iconst 0, 1) := by decide +kernel
theorem dX10_pass_12 : decode cX10_pass 12 = .ok (.istore_n 2, 1) := by decide +kernel
theorem dX10_pass_13 : decode cX10_pass 13 = .ok (.aload_n 0, 1) := by decide +kernel
theorem dX10_pass_14 : decode cX10_pass 14 = .ok (.iload_n 1, 1) := by decide +kernel
theorem dX10_pass_15 : decode cX10_pass 15 = .ok (.putfield 130, 3) := by decide +kernel
theorem dX10_pass_18 : decode cX10_pass 18 = .ok (.iload_n 2, 1) := by decide +kernel
theorem dX10_pass_19 : decode cX10_pass 19 = .ok (.ireturn, 1) := by decide +kernel
theorem dX10_tell_0 : decode cX10_tell 0 = .ok (.aload_n 0, 1) := by decide +kernel
theorem dX10_tell_1 : decode cX10_tell 1 = .ok (.getfield 134, 3) := by decide +kernel
theorem dX10_tell_4 : decode cX10_tell 4 = .ok (.bipush 120, 2) := by decide +kernel
theorem dX10_tell_6 : decode cX10_tell 6 = .ok (.if_icmp .ne 4, 3) := by decide +kernel
theorem dX10_tell_9 : decode cX10_tell 9 = .ok (.return_, 1) := by decide +kernel
theorem dX10_tell_10 : decode cX10_tell 10 = .ok (.iconst 5, 1) := by decide +kernel
theorem dX10_tell_11 : decode cX10_tell 11 = .ok (.aload_n 0, 1) := by decide +kernel
theorem dX10_tell_12 : decode cX10_tell 12 = .ok (.getfield 134, 3) := by decide +kernel
theorem dX10_tell_15 : decode cX10_tell 15 = .ok (.imul, 1) := by decide +kernel
theorem dX10_tell_16 : decode cX10_tell 16 = .ok (.istore 5, 2) := by decide +kernel
theorem dX10_tell_18 : decode cX10_tell 18 = .ok (.aload_n 0, 1) := by decide +kernel
theorem dX10_tell_19 : decode cX10_tell 19 = .ok (.getfield 74, 3) := by decide +kernel
theorem dX10_tell_22 : decode cX10_tell 22 = .ok (.iload 5, 2) := by decide +kernel
theorem dX10_tell_24 : decode cX10_tell 24 = .ok (.iload_n 1, 1) := by decide +kernel
theorem dX10_tell_25 : decode cX10_tell 25 = .ok (.iastore, 1) := by decide +kernel
theorem dX10_tell_26 : decode cX10_tell 26 = .ok (.aload_n 0, 1) := by decide +kernel
theorem dX10_tell_27 : decode cX10_tell 27 = .ok (.getfield 74, 3) := by decide +kernel
theorem dX10_tell_30 : decode cX10_tell 30 = .ok (.iload 5, 2) := by decide +kernel
theorem dX10_tell_32 : decode cX10_tell 32 = .ok (.iconst 1, 1) := by decide +kernel
theorem dX10_tell_33 : decode cX10_tell 33 = .ok (.iadd, 1) := by decide +kernel
theorem dX10_tell_34 : decode cX10_tell 34 = .ok (.iload_n 2, 1) := by decide +kernel
theorem dX10_tell_35 : decode cX10_tell 35 = .ok (.iastore, 1) := by decide +kernel
theorem dX10_tell_36 : decode cX10_tell 36 = .ok (.aload_n 0, 1) := by decide +kernel
theorem dX10_tell_37 : decode cX10_tell 37 = .ok (.getfield 74, 3) := by decide +kernel
theorem dX10_tell_40 : decode cX10_tell 40 = .ok (.iload 5, 2) := by decide +kernel
theorem dX10_tell_42 : decode cX10_tell 42 = .ok (.iconst 2, 1) := by decide +kernel
theorem dX10_tell_43 : decode cX10_tell 43 = .ok (.iadd, 1) := by decide +kernel
theorem dX10_tell_44 : decode cX10_tell 44 = .ok (.iload_n 3, 1) := by decide +kernel
theorem dX10_tell_45 : decode cX10_tell 45 = .ok (.iconst (-1), 1) := by decide +kernel
theorem dX10_tell_46 : decode cX10_tell 46 = .ok (.if_icmp .ne 7, 3) := by decide +kernel
theorem dX10_tell_49 : decode cX10_tell 49 = .ok (.iconst (-1), 1) := by decide +kernel
theorem dX10_tell_50 : decode cX10_tell 50 = .ok (.goto 9, 3) := by decide +kernel
theorem dX10_tell_53 : decode cX10_tell 53 = .ok (.aload_n 0, 1) := by decide +kernel
theorem dX10_tell_54 : decode cX10_tell 54 = .ok (.getfield 47, 3) := by decide +kernel
theorem dX10_tell_57 : decode cX10_tell 57 = .ok (.iload_n 3, 1) := by decide +kernel
theorem dX10_tell_58 : decode cX10_tell 58 = .ok (.iaload, 1) := by decide +kernel
theorem dX10_tell_59 : decode cX10_tell 59 = .ok (.iastore, 1) := by decide +kernel
theorem dX10_tell_60 : decode cX10_tell 60 = .ok (.aload_n 0, 1) := by decide +kernel
theorem dX10_tell_61 : decode cX10_tell 61 = .ok (.getfield 74, 3) := by decide +kernel
theorem dX10_tell_64 : decode cX10_tell 64 = .ok (.iload 5, 2) := by decide +kernel
theorem dX10_tell_66 : decode cX10_tell 66 = .ok (.iconst 3, 1) := by decide +kernel
theorem dX10_tell_67 : decode cX10_tell 67 = .ok (.iadd, 1) := by decide +kernel
theorem dX10_tell_68 : decode cX10_tell 68 = .ok (.iload 4, 2) := by decide +kernel
theorem dX10_tell_70 : decode cX10_tell 70 = .ok (.iastore, 1) := by decide +kernel
theorem dX10_tell_71 : decode cX10_tell 71 = .ok (.aload_n 0, 1) := by decide +kernel
theorem dX10_tell_72 : decode cX10_tell 72 = .ok (.getfield 74, 3) := by decide +kernel
theorem dX10_tell_75 : decode cX10_tell 75 = .ok (.iload 5, 2) := by decide +kernel
theorem dX10_tell_77 : decode cX10_tell 77 = .ok (.iconst 4, 1) := by decide +kernel
theorem dX10_tell_78 : decode cX10_tell 78 = .ok (.iadd, 1) := by decide +kernel
theorem dX10_tell_79 : decode cX10_tell 79 = .ok (.aload_n 0, 1) := by decide +kernel
theorem dX10_tell_80 : decode cX10_tell 80 = .ok (.getfield 137, 3) := by decide +kernel
theorem dX10_tell_83 : decode cX10_tell 83 = .ok (.iastore, 1) := by decide +kernel
theorem dX10_tell_84 : decode cX10_tell 84 = .ok (.aload_n 0, 1) := by decide +kernel
theorem dX10_tell_85 : decode cX10_tell 85 = .ok (.dup, 1) := by decide +kernel
theorem dX10_tell_86 : decode cX10_tell 86 = .ok (.getfield 134, 3) := by decide +kernel
theorem dX10_tell_89 : decode cX10_tell 89 = .ok (.iconst 1, 1) := by decide +kernel
theorem dX10_tell_90 : decode cX10_tell 90 = .ok (.iadd, 1) := by decide +kernel
theorem dX10_tell_91 : decode cX10_tell 91 = .ok (.putfield 134, 3) := by decide +kernel
theorem dX10_tell_94 : decode cX10_tell 94 = .ok (.return_, 1) := by decide +kernel
theorem dX10_step_0 : decode cX10_step 0 = .ok (.iload_n 2, 1) := by decide +kernel
theorem dX10_step_1 : decode cX10_step 1 = .ok (.aload_n 0, 1) := by decide +kernel
theorem dX10_step_2 : decode cX10_step 2 = .ok (.getfield 140, 3) := by decide +kernel
theorem dX10_step_5 : decode cX10_step 5 = .ok (.if_icmp .le 9, 3) := by decide +kernel
theorem dX10_step_8 : decode cX10_step 8 = .ok (.aload_n 0, 1) := by decide +kernel
theorem dX10_step_9 : decode cX10_step 9 = .ok (.iconst 1, 1) := by decide +kernel
theorem dX10_step_10 : decode cX10_step 10 = .ok (.putfield 143, 3) := by decide +kernel
theorem dX10_step_13 : decode cX10_step 13 = .ok (.return_, 1) := by decide +kernel
theorem dX10_step_14 : decode cX10_step 14 = .ok (.aload_n 0, 1) := by decide +kernel
theorem dX10_step_15 : decode cX10_step 15 = .ok (.dup, 1) := by decide +kernel
theorem dX10_step_16 : decode cX10_step 16 = .ok (.getfield 140, 3) := by decide +kernel
theorem dX10_step_19 : decode cX10_step 19 = .ok (.iload_n 2, 1) := by decide +kernel
theorem dX10_step_20 : decode cX10_step 20 = .ok (.isub, 1) := by decide +kernel
theorem dX10_step_21 : decode cX10_step 21 = .ok (.putfield 140, 3) := by decide +kernel
theorem dX10_step_24 : decode cX10_step 24 = .ok (.aload_n 0, 1) := by decide +kernel
theorem dX10_step_25 : decode cX10_step 25 = .ok (.dup, 1) := by decide +kernel
theorem dX10_step_26 : decode cX10_step 26 = .ok (.getfield 146, 3) := by decide +kernel
theorem dX10_step_29 : decode cX10_step 29 = .ok (.iload_n 2, 1) := by decide +kernel
theorem dX10_step_30 : decode cX10_step 30 = .ok (.iadd, 1) := by decide +kernel
theorem dX10_step_31 : decode cX10_step 31 = .ok (.putfield 146, 3) := by decide +kernel
theorem dX10_step_34 : decode cX10_step 34 = .ok (.aload_n 0, 1) := by decide +kernel
theorem dX10_step_35 : decode cX10_step 35 = .ok (.getfield 44, 3) := by decide +kernel
theorem dX10_step_38 : decode cX10_step 38 = .ok (.iload_n 1, 1) := by decide +kernel
theorem dX10_step_39 : decode cX10_step 39 = .ok (.dup2, 1) := by decide +kernel
theorem dX10_step_40 : decode cX10_step 40 = .ok (.iaload, 1) := by decide +kernel
theorem dX10_step_41 : decode cX10_step 41 = .ok (.iload_n 2, 1) := by decide +kernel
theorem dX10_step_42 : decode cX10_step 42 = .ok (.iadd, 1) := by decide +kernel
theorem dX10_step_43 : decode cX10_step 43 = .ok (.iastore, 1) := by decide +kernel
theorem dX10_step_44 : decode cX10_step 44 = .ok (.return_, 1) := by decide +kernel
theorem dX10_act_0 : decode cX10_act 0 = .ok (.aload_n 0, 1) := by decide +kernel
theorem dX10_act_1 : decode cX10_act 1 = .ok (.getfield 32, 3) := by decide +kernel
theorem dX10_act_4 : decode cX10_act 4 = .ok (.iload_n 2, 1) := by decide +kernel
theorem dX10_act_5 : decode cX10_act 5 = .ok (.iconst 2, 1) := by decide +kernel
theorem dX10_act_6 : decode cX10_act 6 = .ok (.iadd, 1) := by decide +kernel
theorem dX10_act_7 : decode cX10_act 7 = .ok (.iaload, 1) := by decide +kernel
theorem dX10_act_8 : decode cX10_act 8 = .ok (.istore 4, 2) := by decide +kernel
theorem dX10_act_10 : decode cX10_act 10 = .ok (.aload_n 0, 1) := by decide +kernel
theorem dX10_act_11 : decode cX10_act 11 = .ok (.getfield 32, 3) := by decide +kernel
theorem dX10_act_14 : decode cX10_act 14 = .ok (.iload_n 2, 1) := by decide +kernel
theorem dX10_act_15 : decode cX10_act 15 = .ok (.iconst 3, 1) := by decide +kernel
theorem dX10_act_16 : decode cX10_act 16 = .ok (.iadd, 1) := by decide +kernel
theorem dX10_act_17 : decode cX10_act 17 = .ok (.iaload, 1) := by decide +kernel
theorem dX10_act_18 : decode cX10_act 18 = .ok (.istore 5, 2) := by decide +kernel
theorem dX10_act_20 : decode cX10_act 20 = .ok (.aload_n 0, 1) := by decide +kernel
theorem dX10_act_21 : decode cX10_act 21 = .ok (.getfield 32, 3) := by decide +kernel
theorem dX10_act_24 : decode cX10_act 24 = .ok (.iload_n 2, 1) := by decide +kernel
theorem dX10_act_25 : decode cX10_act 25 = .ok (.iconst 1, 1) := by decide +kernel
theorem dX10_act_26 : decode cX10_act 26 = .ok (.iadd, 1) := by decide +kernel
theorem dX10_act_27 : decode cX10_act 27 = .ok (.iaload, 1) := by decide +kernel
theorem dX10_act_28 : decode cX10_act 28 = .ok (.tableswitch 324 0 8 #[52, 73, 147, 159, 188, 225, 237, 249, 306], 52) := by decide +kernel
theorem dX10_act_80 : decode cX10_act 80 = .ok (.aload_n 0, 1) := by decide +kernel
theorem dX10_act_81 : decode cX10_act 81 = .ok (.getfield 149, 3) := by decide +kernel
theorem dX10_act_84 : decode cX10_act 84 = .ok (.ifCond .ne 15, 3) := by decide +kernel
theorem dX10_act_87 : decode cX10_act 87 = .ok (.aload_n 0, 1) := by decide +kernel
theorem dX10_act_88 : decode cX10_act 88 = .ok (.getfield 77, 3) := by decide +kernel
theorem dX10_act_91 : decode cX10_act 91 = .ok (.aload_n 0, 1) := by decide +kernel
theorem dX10_act_92 : decode cX10_act 92 = .ok (.getfield 32, 3) := by decide +kernel
theorem dX10_act_95 : decode cX10_act 95 = .ok (.iload_n 2, 1) := by decide +kernel
theorem dX10_act_96 : decode cX10_act 96 = .ok (.iaload, 1) := by decide +kernel
theorem dX10_act_97 : decode cX10_act 97 = .ok (.iload_n 1, 1) := by decide +kernel
theorem dX10_act_98 : decode cX10_act 98 = .ok (.iastore, 1) := by decide +kernel
theorem dX10_act_99 : decode cX10_act 99 = .ok (.iconst 0, 1) := by decide +kernel
theorem dX10_act_100 : decode cX10_act 100 = .ok (.ireturn, 1) := by decide +kernel
theorem dX10_act_101 : decode cX10_act 101 = .ok (.aload_n 0, 1) := by decide +kernel
theorem dX10_act_102 : decode cX10_act 102 = .ok (.iload 4, 2) := by decide +kernel
theorem dX10_act_104 : decode cX10_act 104 = .ok (.invokevirtual 118, 3) := by decide +kernel
theorem dX10_act_107 : decode cX10_act 107 = .ok (.ifCond .lt 15, 3) := by decide +kernel
theorem dX10_act_110 : decode cX10_act 110 = .ok (.aload_n 0, 1) := by decide +kernel
theorem dX10_act_111 : decode cX10_act 111 = .ok (.iconst 3, 1) := by decide +kernel
theorem dX10_act_112 : decode cX10_act 112 = .ok (.iload_n 1, 1) := by decide +kernel
theorem dX10_act_113 : decode cX10_act 113 = .ok (.iload_n 3, 1) := by decide +kernel
theorem dX10_act_114 : decode cX10_act 114 = .ok (.iload 4, 2) := by decide +kernel
theorem dX10_act_116 : decode cX10_act 116 = .ok (.invokevirtual 152, 3) := by decide +kernel
theorem dX10_act_119 : decode cX10_act 119 = .ok (.goto 54, 3) := by decide +kernel
theorem dX10_act_122 : decode cX10_act 122 = .ok (.aload_n 0, 1) := by decide +kernel
theorem dX10_act_123 : decode cX10_act 123 = .ok (.getfield 80, 3) := by decide +kernel
theorem dX10_act_126 : decode cX10_act 126 = .ok (.bipush 40, 2) := by decide +kernel
theorem dX10_act_128 : decode cX10_act 128 = .ok (.if_icmp .ne 15, 3) := by decide +kernel
theorem dX10_act_131 : decode cX10_act 131 = .ok (.aload_n 0, 1) := by decide +kernel
theorem dX10_act_132 : decode cX10_act 132 = .ok (.iconst 4, 1) := by decide +kernel
theorem dX10_act_133 : decode cX10_act 133 = .ok (.iload_n 1, 1) := by decide +kernel
theorem dX10_act_134 : decode cX10_act 134 = .ok (.iload_n 3, 1) := by decide +kernel
theorem dX10_act_135 : decode cX10_act 135 = .ok (.iload 4, 2) := by decide +kernel
theorem dX10_act_137 : decode cX10_act 137 = .ok (.invokevirtual 152, 3) := by decide +kernel
theorem dX10_act_140 : decode cX10_act 140 = .ok (.goto 33, 3) := by decide +kernel
theorem dX10_act_143 : decode cX10_act 143 = .ok (.aload_n 0, 1) := by decide +kernel
theorem dX10_act_144 : decode cX10_act 144 = .ok (.iload 4, 2) := by decide +kernel
theorem dX10_act_146 : decode cX10_act 146 = .ok (.iload 5, 2) := by decide +kernel
theorem dX10_act_148 : decode cX10_act 148 = .ok (.iload_n 1, 1) := by decide +kernel
theorem dX10_act_149 : decode cX10_act 149 = .ok (.aload_n 0, 1) := by decide +kernel
theorem dX10_act_150 : decode cX10_act 150 = .ok (.getfield 137, 3) := by decide +kernel
theorem dX10_act_153 : decode cX10_act 153 = .ok (.invokevirtual 121, 3) := by decide +kernel
theorem dX10_act_156 : decode cX10_act 156 = .ok (.aload_n 0, 1) := by decide +kernel
theorem dX10_act_157 : decode cX10_act 157 = .ok (.getfield 149, 3) := by decide +kernel
theorem dX10_act_160 : decode cX10_act 160 = .ok (.ifCond .eq 13, 3) := by decide +kernel
theorem dX10_act_163 : decode cX10_act 163 = .ok (.aload_n 0, 1) := by decide +kernel
theorem dX10_act_164 : decode cX10_act 164 = .ok (.bipush 7, 2) := by decide +kernel
theorem dX10_act_166 : decode cX10_act 166 = .ok (.iload_n 1, 1) := by decide +kernel
theorem dX10_act_167 : decode cX10_act 167 = .ok (.iload_n 3, 1) := by decide +kernel
theorem dX10_act_168 : decode cX10_act 168 = .ok (.iload 4, 2) := by decide +kernel
theorem dX10_act_170 : decode cX10_act 170 = .ok (.invokevirtual 152, 3) := by decide +kernel
theorem dX10_act_173 : decode cX10_act 173 = .ok (.iconst 0, 1) := by decide +kernel
theorem dX10_act_174 : decode cX10_act 174 = .ok (.ireturn, 1) := by decide +kernel
theorem dX10_act_175 : decode cX10_act 175 = .ok (.aload_n 0, 1) := by decide +kernel
theorem dX10_act_176 : decode cX10_act 176 = .ok (.iload 5, 2) := by decide +kernel
theorem dX10_act_178 : decode cX10_act 178 = .ok (.iload_n 1, 1) := by decide +kernel
theorem dX10_act_179 : decode cX10_act 179 = .ok (.iload_n 3, 1) := by decide +kernel
theorem dX10_act_180 : decode cX10_act 180 = .ok (.iload 4, 2) := by decide +kernel
theorem dX10_act_182 : decode cX10_act 182 = .ok (.invokevirtual 152, 3) := by decide +kernel
theorem dX10_act_185 : decode cX10_act 185 = .ok (.iconst 0, 1) := by decide +kernel
theorem dX10_act_186 : decode cX10_act 186 = .ok (.ireturn, 1) := by decide +kernel
theorem dX10_act_187 : decode cX10_act 187 = .ok (.aload_n 0, 1) := by decide +kernel
theorem dX10_act_188 : decode cX10_act 188 = .ok (.getfield 35, 3) := by decide +kernel
theorem dX10_act_191 : decode cX10_act 191 = .ok (.iload_n 1, 1) := by decide +kernel
theorem dX10_act_192 : decode cX10_act 192 = .ok (.dup2, 1) := by decide +kernel
theorem dX10_act_193 : decode cX10_act 193 = .ok (.iaload, 1) := by decide +kernel
theorem dX10_act_194 : decode cX10_act 194 = .ok (.iload 4, 2) := by decide +kernel
theorem dX10_act_196 : decode cX10_act 196 = .ok (.bipush 127, 2) := by decide +kernel
theorem dX10_act_198 : decode cX10_act 198 = .ok (.if_icmp .le 12, 3) := by decide +kernel
theorem dX10_act_201 : decode cX10_act 201 = .ok (.iload 4, 2) := by decide +kernel
theorem dX10_act_203 : decode cX10_act 203 = .ok (.sipush 256, 3) := by decide +kernel
theorem dX10_act_206 : decode cX10_act 206 = .ok (.isub, 1) := by decide +kernel
theorem dX10_act_207 : decode cX10_act 207 = .ok (.goto 5, 3) := by decide +kernel
theorem dX10_act_210 : decode cX10_act 210 = .ok (.iload 4, 2) := by decide +kernel
theorem dX10_act_212 : decode cX10_act 212 = .ok (.iadd, 1) := by decide +kernel
theorem dX10_act_213 : decode cX10_act 213 = .ok (.iastore, 1) := by decide +kernel
theorem dX10_act_214 : decode cX10_act 214 = .ok (.iconst 0, 1) := by decide +kernel
theorem dX10_act_215 : decode cX10_act 215 = .ok (.ireturn, 1) := by decide +kernel
theorem dX10_act_216 : decode cX10_act 216 = .ok (.aload_n 0, 1) := by decide +kernel
theorem dX10_act_217 : decode cX10_act 217 = .ok (.iconst 5, 1) := by decide +kernel
theorem dX10_act_218 : decode cX10_act 218 = .ok (.iload_n 1, 1) := by decide +kernel
theorem dX10_act_219 : decode cX10_act 219 = .ok (.iload_n 3, 1) := by decide +kernel
theorem dX10_act_220 : decode cX10_act 220 = .ok (.iload 4, 2) := by decide +kernel
theorem dX10_act_222 : decode cX10_act 222 = .ok (.invokevirtual 152, 3) := by decide +kernel
theorem dX10_act_225 : decode cX10_act 225 = .ok (.aload_n 0, 1) := by decide +kernel
theorem dX10_act_226 : decode cX10_act 226 = .ok (.getfield 41, 3) := by decide +kernel
theorem dX10_act_229 : decode cX10_act 229 = .ok (.iload_n 1, 1) := by decide +kernel
theorem dX10_act_230 : decode cX10_act 230 = .ok (.iconst 1, 1) := by decide +kernel
theorem dX10_act_231 : decode cX10_act 231 = .ok (.bastore, 1) := by decide +kernel
theorem dX10_act_232 : decode cX10_act 232 = .ok (.aload_n 0, 1) := by decide +kernel
theorem dX10_act_233 : decode cX10_act 233 = .ok (.aload_n 0, 1) := by decide +kernel
theorem dX10_act_234 : decode cX10_act 234 = .ok (.getfield 130, 3) := by decide +kernel
theorem dX10_act_237 : decode cX10_act 237 = .ok (.ifCond .eq 10, 3) := by decide +kernel
theorem dX10_act_240 : decode cX10_act 240 = .ok (.aload_n 0, 1) := by decide +kernel
theorem dX10_act_241 : decode cX10_act 241 = .ok (.getfield 143, 3) := by decide +kernel
theorem dX10_act_244 : decode cX10_act 244 = .ok (.goto 4, 3) := by decide +kernel
theorem dX10_act_247 : decode cX10_act 247 = .ok (.iconst 2, 1) := by decide +kernel
theorem dX10_act_248 : decode cX10_act 248 = .ok (.putfield 143, 3) := by decide +kernel
theorem dX10_act_251 : decode cX10_act 251 = .ok (.iconst 0, 1) := by decide +kernel
theorem dX10_act_252 : decode cX10_act 252 = .ok (.ireturn, 1) := by decide +kernel
theorem dX10_act_253 : decode cX10_act 253 = .ok (.aload_n 0, 1) := by decide +kernel
theorem dX10_act_254 : decode cX10_act 254 = .ok (.iload_n 1, 1) := by decide +kernel
theorem dX10_act_255 : decode cX10_act 255 = .ok (.iload 4, 2) := by decide +kernel
theorem dX10_act_257 : decode cX10_act 257 = .ok (.iload 5, 2) := by decide +kernel
theorem dX10_act_259 : decode cX10_act 259 = .ok (.imul, 1) := by decide +kernel
theorem dX10_act_260 : decode cX10_act 260 = .ok (.invokevirtual 155, 3) := by decide +kernel
theorem dX10_act_263 : decode cX10_act 263 = .ok (.iconst 0, 1) := by decide +kernel
theorem dX10_act_264 : decode cX10_act 264 = .ok (.ireturn, 1) := by decide +kernel
theorem dX10_act_265 : decode cX10_act 265 = .ok (.aload_n 0, 1) := by decide +kernel
theorem dX10_act_266 : decode cX10_act 266 = .ok (.bipush 6, 2) := by decide +kernel
theorem dX10_act_268 : decode cX10_act 268 = .ok (.iload_n 1, 1) := by decide +kernel
theorem dX10_act_269 : decode cX10_act 269 = .ok (.iload_n 3, 1) := by decide +kernel
theorem dX10_act_270 : decode cX10_act 270 = .ok (.iload 4, 2) := by decide +kernel
theorem dX10_act_272 : decode cX10_act 272 = .ok (.invokevirtual 152, 3) := by decide +kernel
theorem dX10_act_275 : decode cX10_act 275 = .ok (.iconst 0, 1) := by decide +kernel
theorem dX10_act_276 : decode cX10_act 276 = .ok (.ireturn, 1) := by decide +kernel
theorem dX10_act_277 : decode cX10_act 277 = .ok (.aload_n 0, 1) := by decide +kernel
theorem dX10_act_278 : decode cX10_act 278 = .ok (.getfield 65, 3) := by decide +kernel
theorem dX10_act_281 : decode cX10_act 281 = .ok (.iload 4, 2) := by decide +kernel
theorem dX10_act_283 : decode cX10_act 283 = .ok (.iaload, 1) := by decide +kernel
theorem dX10_act_284 : decode cX10_act 284 = .ok (.bipush 100, 2) := by decide +kernel
theorem dX10_act_286 : decode cX10_act 286 = .ok (.if_icmp .ne 15, 3) := by decide +kernel
theorem dX10_act_289 : decode cX10_act 289 = .ok (.aload_n 0, 1) := by decide +kernel
theorem dX10_act_290 : decode cX10_act 290 = .ok (.iconst 4, 1) := by decide +kernel
theorem dX10_act_291 : decode cX10_act 291 = .ok (.iload_n 1, 1) := by decide +kernel
theorem dX10_act_292 : decode cX10_act 292 = .ok (.iload_n 3, 1) := by decide +kernel
theorem dX10_act_293 : decode cX10_act 293 = .ok (.iload 4, 2) := by decide +kernel
theorem dX10_act_295 : decode cX10_act 295 = .ok (.invokevirtual 152, 3) := by decide +kernel
theorem dX10_act_298 : decode cX10_act 298 = .ok (.goto 34, 3) := by decide +kernel
theorem dX10_act_301 : decode cX10_act 301 = .ok (.aload_n 0, 1) := by decide +kernel
theorem dX10_act_302 : decode cX10_act 302 = .ok (.getfield 71, 3) := by decide +kernel
theorem dX10_act_305 : decode cX10_act 305 = .ok (.bipush 100, 2) := by decide +kernel
theorem dX10_act_307 : decode cX10_act 307 = .ok (.iload 4, 2) := by decide +kernel
theorem dX10_act_309 : decode cX10_act 309 = .ok (.imul, 1) := by decide +kernel
theorem dX10_act_310 : decode cX10_act 310 = .ok (.aload_n 0, 1) := by decide +kernel
theorem dX10_act_311 : decode cX10_act 311 = .ok (.getfield 65, 3) := by decide +kernel
theorem dX10_act_314 : decode cX10_act 314 = .ok (.iload 4, 2) := by decide +kernel
theorem dX10_act_316 : decode cX10_act 316 = .ok (.iaload, 1) := by decide +kernel
theorem dX10_act_317 : decode cX10_act 317 = .ok (.iadd, 1) := by decide +kernel
theorem dX10_act_318 : decode cX10_act 318 = .ok (.iload 5, 2) := by decide +kernel
theorem dX10_act_320 : decode cX10_act 320 = .ok (.iastore, 1) := by decide +kernel
theorem dX10_act_321 : decode cX10_act 321 = .ok (.aload_n 0, 1) := by decide +kernel
theorem dX10_act_322 : decode cX10_act 322 = .ok (.getfield 65, 3) := by decide +kernel
theorem dX10_act_325 : decode cX10_act 325 = .ok (.iload 4, 2) := by decide +kernel
theorem dX10_act_327 : decode cX10_act 327 = .ok (.dup2, 1) := by decide +kernel
theorem dX10_act_328 : decode cX10_act 328 = .ok (.iaload, 1) := by decide +kernel
theorem dX10_act_329 : decode cX10_act 329 = .ok (.iconst 1, 1) := by decide +kernel
theorem dX10_act_330 : decode cX10_act 330 = .ok (.iadd, 1) := by decide +kernel
theorem dX10_act_331 : decode cX10_act 331 = .ok (.iastore, 1) := by decide +kernel
theorem dX10_act_332 : decode cX10_act 332 = .ok (.iconst 0, 1) := by decide +kernel
theorem dX10_act_333 : decode cX10_act 333 = .ok (.ireturn, 1) := by decide +kernel
theorem dX10_act_334 : decode cX10_act 334 = .ok (.aload_n 0, 1) := by decide +kernel
theorem dX10_act_335 : decode cX10_act 335 = .ok (.getfield 35, 3) := by decide +kernel
theorem dX10_act_338 : decode cX10_act 338 = .ok (.iload_n 1, 1) := by decide +kernel
theorem dX10_act_339 : decode cX10_act 339 = .ok (.iaload, 1) := by decide +kernel
theorem dX10_act_340 : decode cX10_act 340 = .ok (.iload 4, 2) := by decide +kernel
theorem dX10_act_342 : decode cX10_act 342 = .ok (.if_icmp .lt 8, 3) := by decide +kernel
theorem dX10_act_345 : decode cX10_act 345 = .ok (.iload 5, 2) := by decide +kernel
theorem dX10_act_347 : decode cX10_act 347 = .ok (.goto 4, 3) := by decide +kernel
theorem dX10_act_350 : decode cX10_act 350 = .ok (.iconst 0, 1) := by decide +kernel
theorem dX10_act_351 : decode cX10_act 351 = .ok (.ireturn, 1) := by decide +kernel
theorem dX10_act_352 : decode cX10_act 352 = .ok (.aload_n 0, 1) := by decide +kernel
theorem dX10_act_353 : decode cX10_act 353 = .ok (.getfield 35, 3) := by decide +kernel
theorem dX10_act_356 : decode cX10_act 356 = .ok (.iload_n 1, 1) := by decide +kernel
theorem dX10_act_357 : decode cX10_act 357 = .ok (.aload_n 0, 1) := by decide +kernel
theorem dX10_act_358 : decode cX10_act 358 = .ok (.getfield 62, 3) := by decide +kernel
theorem dX10_act_361 : decode cX10_act 361 = .ok (.iload 4, 2) := by decide +kernel
theorem dX10_act_363 : decode cX10_act 363 = .ok (.iaload, 1) := by decide +kernel
theorem dX10_act_364 : decode cX10_act 364 = .ok (.iastore, 1) := by decide +kernel
theorem dX10_act_365 : decode cX10_act 365 = .ok (.iconst 0, 1) := by decide +kernel
theorem dX10_act_366 : decode cX10_act 366 = .ok (.ireturn, 1) := by decide +kernel
theorem dX10_meet_0 : decode cX10_meet 0 = .ok (.iconst 0, 1) := by decide +kernel
theorem dX10_meet_1 : decode cX10_meet 1 = .ok (.istore_n 3, 1) := by decide +kernel
theorem dX10_meet_2 : decode cX10_meet 2 = .ok (.iload_n 3, 1) := by decide +kernel
theorem dX10_meet_3 : decode cX10_meet 3 = .ok (.aload_n 0, 1) := by decide +kernel
theorem dX10_meet_4 : decode cX10_meet 4 = .ok (.getfield 29, 3) := by decide +kernel
theorem dX10_meet_7 : decode cX10_meet 7 = .ok (.iload_n 1, 1) := by decide +kernel
theorem dX10_meet_8 : decode cX10_meet 8 = .ok (.iaload, 1) := by decide +kernel
theorem dX10_meet_9 : decode cX10_meet 9 = .ok (.if_icmp .ge 170, 3) := by decide +kernel
theorem dX10_meet_12 : decode cX10_meet 12 = .ok (.aload_n 0, 1) := by decide +kernel
theorem dX10_meet_13 : decode cX10_meet 13 = .ok (.getfield 143, 3) := by decide +kernel
theorem dX10_meet_16 : decode cX10_meet 16 = .ok (.ifCond .ne 163, 3) := by decide +kernel
theorem dX10_meet_19 : decode cX10_meet 19 = .ok (.aload_n 0, 1) := by decide +kernel
theorem dX10_meet_20 : decode cX10_meet 20 = .ok (.getfield 41, 3) := by decide +kernel
theorem dX10_meet_23 : decode cX10_meet 23 = .ok (.iload_n 1, 1) := by decide +kernel
theorem dX10_meet_24 : decode cX10_meet 24 = .ok (.baload, 1) := by decide +kernel
theorem dX10_meet_25 : decode cX10_meet 25 = .ok (.ifCond .ne 154, 3) := by decide +kernel
theorem dX10_meet_28 : decode cX10_meet 28 = .ok (.bipush 48, 2) := by decide +kernel
theorem dX10_meet_30 : decode cX10_meet 30 = .ok (.iload_n 1, 1) := by decide +kernel
theorem dX10_meet_31 : decode cX10_meet 31 = .ok (.imul, 1) := by decide +kernel
theorem dX10_meet_32 : decode cX10_meet 32 = .ok (.iconst 4, 1) := by decide +kernel
theorem dX10_meet_33 : decode cX10_meet 33 = .ok (.iload_n 3, 1) := by decide +kernel
theorem dX10_meet_34 : decode cX10_meet 34 = .ok (.imul, 1) := by decide +kernel
theorem dX10_meet_35 : decode cX10_meet 35 = .ok (.iadd, 1) := by decide +kernel
theorem dX10_meet_36 : decode cX10_meet 36 = .ok (.istore 4, 2) := by decide +kernel
theorem dX10_meet_38 : decode cX10_meet 38 = .ok (.aload_n 0, 1) := by decide +kernel
theorem dX10_meet_39 : decode cX10_meet 39 = .ok (.getfield 32, 3) := by decide +kernel
theorem dX10_meet_42 : decode cX10_meet 42 = .ok (.iload 4, 2) := by decide +kernel
theorem dX10_meet_44 : decode cX10_meet 44 = .ok (.iaload, 1) := by decide +kernel
theorem dX10_meet_45 : decode cX10_meet 45 = .ok (.istore 5, 2) := by decide +kernel
theorem dX10_meet_47 : decode cX10_meet 47 = .ok (.iload_n 2, 1) := by decide +kernel
theorem dX10_meet_48 : decode cX10_meet 48 = .ok (.iconst (-1), 1) := by decide +kernel
theorem dX10_meet_49 : decode cX10_meet 49 = .ok (.if_icmp .ne 18, 3) := by decide +kernel
theorem dX10_meet_52 : decode cX10_meet 52 = .ok (.iload 5, 2) := by decide +kernel
theorem dX10_meet_54 : decode cX10_meet 54 = .ok (.bipush 15, 2) := by decide +kernel
theorem dX10_meet_56 : decode cX10_meet 56 = .ok (.if_icmp .ne 7, 3) := by decide +kernel
theorem dX10_meet_59 : decode cX10_meet 59 = .ok (.iconst 1, 1) := by decide +kernel
theorem dX10_meet_60 : decode cX10_meet 60 = .ok (.goto 78, 3) := by decide +kernel
theorem dX10_meet_63 : decode cX10_meet 63 = .ok (.iconst 0, 1) := by decide +kernel
theorem dX10_meet_64 : decode cX10_meet 64 = .ok (.goto 74, 3) := by decide +kernel
theorem dX10_meet_67 : decode cX10_meet 67 = .ok (.iload 5, 2) := by decide +kernel
theorem dX10_meet_69 : decode cX10_meet 69 = .ok (.bipush 15, 2) := by decide +kernel
theorem dX10_meet_71 : decode cX10_meet 71 = .ok (.if_icmp .eq 66, 3) := by decide +kernel
theorem dX10_meet_74 : decode cX10_meet 74 = .ok (.aload_n 0, 1) := by decide +kernel
theorem dX10_meet_75 : decode cX10_meet 75 = .ok (.getfield 50, 3) := by decide +kernel
theorem dX10_meet_78 : decode cX10_meet 78 = .ok (.iload_n 2, 1) := by decide +kernel
theorem dX10_meet_79 : decode cX10_meet 79 = .ok (.iaload, 1) := by decide +kernel
theorem dX10_meet_80 : decode cX10_meet 80 = .ok (.iload 5, 2) := by decide +kernel
theorem dX10_meet_82 : decode cX10_meet 82 = .ok (.ishr, 1) := by decide +kernel
theorem dX10_meet_83 : decode cX10_meet 83 = .ok (.iconst 1, 1) := by decide +kernel
theorem dX10_meet_84 : decode cX10_meet 84 = .ok (.iand, 1) := by decide +kernel
theorem dX10_meet_85 : decode cX10_meet 85 = .ok (.iconst 1, 1) := by decide +kernel
theorem dX10_meet_86 : decode cX10_meet 86 = .ok (.if_icmp .ne 51, 3) := by decide +kernel
theorem dX10_meet_89 : decode cX10_meet 89 = .ok (.aload_n 0, 1) := by decide +kernel
theorem dX10_meet_90 : decode cX10_meet 90 = .ok (.getfield 77, 3) := by decide +kernel
theorem dX10_meet_93 : decode cX10_meet 93 = .ok (.iload 5, 2) := by decide +kernel
theorem dX10_meet_95 : decode cX10_meet 95 = .ok (.bipush 15, 2) := by decide +kernel
theorem dX10_meet_97 : decode cX10_meet 97 = .ok (.if_icmp .ne 7, 3) := by decide +kernel
theorem dX10_meet_100 : decode cX10_meet 100 = .ok (.iconst 0, 1) := by decide +kernel
theorem dX10_meet_101 : decode cX10_meet 101 = .ok (.goto 5, 3) := by decide +kernel
theorem dX10_meet_104 : decode cX10_meet 104 = .ok (.iload 5, 2) := by decide +kernel
theorem dX10_meet_106 : decode cX10_meet 106 = .ok (.iaload, 1) := by decide +kernel
theorem dX10_meet_107 : decode cX10_meet 107 = .ok (.iconst (-1), 1) := by decide +kernel
theorem dX10_meet_108 : decode cX10_meet 108 = .ok (.if_icmp .eq 25, 3) := by decide +kernel
theorem dX10_meet_111 : decode cX10_meet 111 = .ok (.aload_n 0, 1) := by decide +kernel
theorem dX10_meet_112 : decode cX10_meet 112 = .ok (.getfield 77, 3) := by decide +kernel
theorem dX10_meet_115 : decode cX10_meet 115 = .ok (.iload 5, 2) := by decide +kernel
theorem dX10_meet_117 : decode cX10_meet 117 = .ok (.bipush 15, 2) := by decide +kernel
theorem dX10_meet_119 : decode cX10_meet 119 = .ok (.if_icmp .ne 7, 3) := by decide +kernel
theorem dX10_meet_122 : decode cX10_meet 122 = .ok (.iconst 0, 1) := by decide +kernel
theorem dX10_meet_123 : decode cX10_meet 123 = .ok (.goto 5, 3) := by decide +kernel
theorem dX10_meet_126 : decode cX10_meet 126 = .ok (.iload 5, 2) := by decide +kernel
theorem dX10_meet_128 : decode cX10_meet 128 = .ok (.iaload, 1) := by decide +kernel
theorem dX10_meet_129 : decode cX10_meet 129 = .ok (.iload_n 1, 1) := by decide +kernel
theorem dX10_meet_130 : decode cX10_meet 130 = .ok (.if_icmp .ne 7, 3) := by decide +kernel
theorem dX10_meet_133 : decode cX10_meet 133 = .ok (.iconst 1, 1) := by decide +kernel
theorem dX10_meet_134 : decode cX10_meet 134 = .ok (.goto 4, 3) := by decide +kernel
theorem dX10_meet_137 : decode cX10_meet 137 = .ok (.iconst 0, 1) := by decide +kernel
theorem dX10_meet_138 : decode cX10_meet 138 = .ok (.istore 6, 2) := by decide +kernel
theorem dX10_meet_140 : decode cX10_meet 140 = .ok (.iinc 3 1, 3) := by decide +kernel
theorem dX10_meet_143 : decode cX10_meet 143 = .ok (.iload 6, 2) := by decide +kernel
theorem dX10_meet_145 : decode cX10_meet 145 = .ok (.ifCond .eq 31, 3) := by decide +kernel
theorem dX10_meet_148 : decode cX10_meet 148 = .ok (.aload_n 0, 1) := by decide +kernel
theorem dX10_meet_149 : decode cX10_meet 149 = .ok (.iload_n 1, 1) := by decide +kernel
theorem dX10_meet_150 : decode cX10_meet 150 = .ok (.iconst 1, 1) := by decide +kernel
theorem dX10_meet_151 : decode cX10_meet 151 = .ok (.invokevirtual 155, 3) := by decide +kernel
theorem dX10_meet_154 : decode cX10_meet 154 = .ok (.iload_n 3, 1) := by decide +kernel
theorem dX10_meet_155 : decode cX10_meet 155 = .ok (.aload_n 0, 1) := by decide +kernel
theorem dX10_meet_156 : decode cX10_meet 156 = .ok (.getfield 143, 3) := by decide +kernel
theorem dX10_meet_159 : decode cX10_meet 159 = .ok (.ifCond .ne 14, 3) := by decide +kernel
theorem dX10_meet_162 : decode cX10_meet 162 = .ok (.aload_n 0, 1) := by decide +kernel
theorem dX10_meet_163 : decode cX10_meet 163 = .ok (.iload_n 1, 1) := by decide +kernel
theorem dX10_meet_164 : decode cX10_meet 164 = .ok (.iload 4, 2) := by decide +kernel
theorem dX10_meet_166 : decode cX10_meet 166 = .ok (.iload_n 2, 1) := by decide +kernel
theorem dX10_meet_167 : decode cX10_meet 167 = .ok (.invokevirtual 159, 3) := by decide +kernel
theorem dX10_meet_170 : decode cX10_meet 170 = .ok (.goto 4, 3) := by decide +kernel
theorem dX10_meet_173 : decode cX10_meet 173 = .ok (.iconst 0, 1) := by decide +kernel
theorem dX10_meet_174 : decode cX10_meet 174 = .ok (.iadd, 1) := by decide +kernel
theorem dX10_meet_175 : decode cX10_meet 175 = .ok (.istore_n 3, 1) := by decide +kernel
theorem dX10_meet_176 : decode cX10_meet 176 = .ok (.goto (-174), 3) := by decide +kernel
theorem dX10_meet_179 : decode cX10_meet 179 = .ok (.return_, 1) := by decide +kernel
theorem dX10_turn_0 : decode cX10_turn 0 = .ok (.iconst 0, 1) := by decide +kernel
theorem dX10_turn_1 : decode cX10_turn 1 = .ok (.istore 4, 2) := by decide +kernel
theorem dX10_turn_3 : decode cX10_turn 3 = .ok (.iload 4, 2) := by decide +kernel
theorem dX10_turn_5 : decode cX10_turn 5 = .ok (.bipush 8, 2) := by decide +kernel
theorem dX10_turn_7 : decode cX10_turn 7 = .ok (.if_icmp .ge 17, 3) := by decide +kernel
theorem dX10_turn_10 : decode cX10_turn 10 = .ok (.aload_n 0, 1) := by decide +kernel
theorem dX10_turn_11 : decode cX10_turn 11 = .ok (.getfield 77, 3) := by decide +kernel
theorem dX10_turn_14 : decode cX10_turn 14 = .ok (.iload 4, 2) := by decide +kernel
theorem dX10_turn_16 : decode cX10_turn 16 = .ok (.iconst (-1), 1) := by decide +kernel
theorem dX10_turn_17 : decode cX10_turn 17 = .ok (.iastore, 1) := by decide +kernel
theorem dX10_turn_18 : decode cX10_turn 18 = .ok (.iinc 4 1, 3) := by decide +kernel
theorem dX10_turn_21 : decode cX10_turn 21 = .ok (.goto (-18), 3) := by decide +kernel
theorem dX10_turn_24 : decode cX10_turn 24 = .ok (.iconst 0, 1) := by decide +kernel
theorem dX10_turn_25 : decode cX10_turn 25 = .ok (.istore 4, 2) := by decide +kernel
theorem dX10_turn_27 : decode cX10_turn 27 = .ok (.iload 4, 2) := by decide +kernel
theorem dX10_turn_29 : decode cX10_turn 29 = .ok (.aload_n 0, 1) := by decide +kernel
theorem dX10_turn_30 : decode cX10_turn 30 = .ok (.getfield 113, 3) := by decide +kernel
theorem dX10_turn_33 : decode cX10_turn 33 = .ok (.if_icmp .ge 63, 3) := by decide +kernel
theorem dX10_turn_36 : decode cX10_turn 36 = .ok (.iload_n 1, 1) := by decide +kernel
theorem dX10_turn_37 : decode cX10_turn 37 = .ok (.istore 5, 2) := by decide +kernel
theorem dX10_turn_39 : decode cX10_turn 39 = .ok (.iload 5, 2) := by decide +kernel
theorem dX10_turn_41 : decode cX10_turn 41 = .ok (.iload_n 2, 1) := by decide +kernel
theorem dX10_turn_42 : decode cX10_turn 42 = .ok (.if_icmp .ge 48, 3) := by decide +kernel
theorem dX10_turn_45 : decode cX10_turn 45 = .ok (.aload_n 0, 1) := by decide +kernel
theorem dX10_turn_46 : decode cX10_turn 46 = .ok (.getfield 143, 3) := by decide +kernel
theorem dX10_turn_49 : decode cX10_turn 49 = .ok (.ifCond .ne 41, 3) := by decide +kernel
theorem dX10_turn_52 : decode cX10_turn 52 = .ok (.aload_n 0, 1) := by decide +kernel
theorem dX10_turn_53 : decode cX10_turn 53 = .ok (.getfield 41, 3) := by decide +kernel
theorem dX10_turn_56 : decode cX10_turn 56 = .ok (.iload 4, 2) := by decide +kernel
theorem dX10_turn_58 : decode cX10_turn 58 = .ok (.baload, 1) := by decide +kernel
theorem dX10_turn_59 : decode cX10_turn 59 = .ok (.ifCond .ne 31, 3) := by decide +kernel
theorem dX10_turn_62 : decode cX10_turn 62 = .ok (.iload_n 3, 1) := by decide +kernel
theorem dX10_turn_63 : decode cX10_turn 63 = .ok (.ifCond .eq 13, 3) := by decide +kernel
theorem dX10_turn_66 : decode cX10_turn 66 = .ok (.aload_n 0, 1) := by decide +kernel
theorem dX10_turn_67 : decode cX10_turn 67 = .ok (.getfield 53, 3) := by decide +kernel
theorem dX10_turn_70 : decode cX10_turn 70 = .ok (.iload 5, 2) := by decide +kernel
theorem dX10_turn_72 : decode cX10_turn 72 = .ok (.baload, 1) := by decide +kernel
theorem dX10_turn_73 : decode cX10_turn 73 = .ok (.ifCond .eq 11, 3) := by decide +kernel
theorem dX10_turn_76 : decode cX10_turn 76 = .ok (.aload_n 0, 1) := by decide +kernel
theorem dX10_turn_77 : decode cX10_turn 77 = .ok (.iload 4, 2) := by decide +kernel
theorem dX10_turn_79 : decode cX10_turn 79 = .ok (.iload 5, 2) := by decide +kernel
theorem dX10_turn_81 : decode cX10_turn 81 = .ok (.invokevirtual 163, 3) := by decide +kernel
theorem dX10_turn_84 : decode cX10_turn 84 = .ok (.iinc 5 1, 3) := by decide +kernel
theorem dX10_turn_87 : decode cX10_turn 87 = .ok (.goto (-48), 3) := by decide +kernel
theorem dX10_turn_90 : decode cX10_turn 90 = .ok (.iinc 4 1, 3) := by decide +kernel
theorem dX10_turn_93 : decode cX10_turn 93 = .ok (.goto (-66), 3) := by decide +kernel
theorem dX10_turn_96 : decode cX10_turn 96 = .ok (.return_, 1) := by decide +kernel
theorem dX10_run_0 : decode cX10_run 0 = .ok (.iload_n 1, 1) := by decide +kernel
theorem dX10_run_1 : decode cX10_run 1 = .ok (.i2l, 1) := by decide +kernel
theorem dX10_run_2 : decode cX10_run 2 = .ok (.lconst 0, 1) := by decide +kernel
theorem dX10_run_3 : decode cX10_run 3 = .ok (.ldc2_w 166, 3) := by decide +kernel
theorem dX10_run_6 : decode cX10_run 6 = .ok (.invokestatic 89, 3) := by decide +kernel
theorem dX10_run_9 : decode cX10_run 9 = .ok (.ifCond .ne 6, 3) := by decide +kernel
theorem dX10_run_12 : decode cX10_run 12 = .ok (.bipush (-102), 2) := by decide +kernel
theorem dX10_run_14 : decode cX10_run 14 = .ok (.ireturn, 1) := by decide +kernel
theorem dX10_run_15 : decode cX10_run 15 = .ok (.aload_n 0, 1) := by decide +kernel
theorem dX10_run_16 : decode cX10_run 16 = .ok (.getfield 80, 3) := by decide +kernel
theorem dX10_run_19 : decode cX10_run 19 = .ok (.istore_n 2, 1) := by decide +kernel
theorem dX10_run_20 : decode cX10_run 20 = .ok (.iconst 0, 1) := by decide +kernel
theorem dX10_run_21 : decode cX10_run 21 = .ok (.istore_n 3, 1) := by decide +kernel
theorem dX10_run_22 : decode cX10_run 22 = .ok (.iconst 0, 1) := by decide +kernel
theorem dX10_run_23 : decode cX10_run 23 = .ok (.istore 4, 2) := by decide +kernel
theorem dX10_run_25 : decode cX10_run 25 = .ok (.iload 4, 2) := by decide +kernel
theorem dX10_run_27 : decode cX10_run 27 = .ok (.aload_n 0, 1) := by decide +kernel
theorem dX10_run_28 : decode cX10_run 28 = .ok (.getfield 80, 3) := by decide +kernel
theorem dX10_run_31 : decode cX10_run 31 = .ok (.if_icmp .ge 27, 3) := by decide +kernel
theorem dX10_run_34 : decode cX10_run 34 = .ok (.iload_n 3, 1) := by decide +kernel
theorem dX10_run_35 : decode cX10_run 35 = .ok (.aload_n 0, 1) := by decide +kernel
theorem dX10_run_36 : decode cX10_run 36 = .ok (.getfield 53, 3) := by decide +kernel
theorem dX10_run_39 : decode cX10_run 39 = .ok (.iload 4, 2) := by decide +kernel
theorem dX10_run_41 : decode cX10_run 41 = .ok (.baload, 1) := by decide +kernel
theorem dX10_run_42 : decode cX10_run 42 = .ok (.ifCond .eq 7, 3) := by decide +kernel
theorem dX10_run_45 : decode cX10_run 45 = .ok (.iconst 1, 1) := by decide +kernel
theorem dX10_run_46 : decode cX10_run 46 = .ok (.goto 4, 3) := by decide +kernel
theorem dX10_run_49 : decode cX10_run 49 = .ok (.iconst 0, 1) := by decide +kernel
theorem dX10_run_50 : decode cX10_run 50 = .ok (.iadd, 1) := by decide +kernel
theorem dX10_run_51 : decode cX10_run 51 = .ok (.istore_n 3, 1) := by decide +kernel
theorem dX10_run_52 : decode cX10_run 52 = .ok (.iinc 4 1, 3) := by decide +kernel
theorem dX10_run_55 : decode cX10_run 55 = .ok (.goto (-30), 3) := by decide +kernel
theorem dX10_run_58 : decode cX10_run 58 = .ok (.iconst 0, 1) := by decide +kernel
theorem dX10_run_59 : decode cX10_run 59 = .ok (.istore 4, 2) := by decide +kernel
theorem dX10_run_61 : decode cX10_run 61 = .ok (.iload 4, 2) := by decide +kernel
theorem dX10_run_63 : decode cX10_run 63 = .ok (.bipush 6, 2) := by decide +kernel
theorem dX10_run_65 : decode cX10_run 65 = .ok (.if_icmp .ge 39, 3) := by decide +kernel
theorem dX10_run_68 : decode cX10_run 68 = .ok (.aload_n 0, 1) := by decide +kernel
theorem dX10_run_69 : decode cX10_run 69 = .ok (.getfield 38, 3) := by decide +kernel
theorem dX10_run_72 : decode cX10_run 72 = .ok (.iload 4, 2) := by decide +kernel
theorem dX10_run_74 : decode cX10_run 74 = .ok (.aload_n 0, 1) := by decide +kernel
theorem dX10_run_75 : decode cX10_run 75 = .ok (.getfield 35, 3) := by decide +kernel
theorem dX10_run_78 : decode cX10_run 78 = .ok (.iload 4, 2) := by decide +kernel
theorem dX10_run_80 : decode cX10_run 80 = .ok (.iaload, 1) := by decide +kernel
theorem dX10_run_81 : decode cX10_run 81 = .ok (.iastore, 1) := by decide +kernel
theorem dX10_run_82 : decode cX10_run 82 = .ok (.aload_n 0, 1) := by decide +kernel
theorem dX10_run_83 : decode cX10_run 83 = .ok (.getfield 41, 3) := by decide +kernel
theorem dX10_run_86 : decode cX10_run 86 = .ok (.iload 4, 2) := by decide +kernel
theorem dX10_run_88 : decode cX10_run 88 = .ok (.iconst 0, 1) := by decide +kernel
theorem dX10_run_89 : decode cX10_run 89 = .ok (.bastore, 1) := by decide +kernel
theorem dX10_run_90 : decode cX10_run 90 = .ok (.aload_n 0, 1) := by decide +kernel
theorem dX10_run_91 : decode cX10_run 91 = .ok (.getfield 44, 3) := by decide +kernel
theorem dX10_run_94 : decode cX10_run 94 = .ok (.iload 4, 2) := by decide +kernel
theorem dX10_run_96 : decode cX10_run 96 = .ok (.iconst 0, 1) := by decide +kernel
theorem dX10_run_97 : decode cX10_run 97 = .ok (.iastore, 1) := by decide +kernel
theorem dX10_run_98 : decode cX10_run 98 = .ok (.iinc 4 1, 3) := by decide +kernel
theorem dX10_run_101 : decode cX10_run 101 = .ok (.goto (-40), 3) := by decide +kernel
theorem dX10_run_104 : decode cX10_run 104 = .ok (.iconst 0, 1) := by decide +kernel
theorem dX10_run_105 : decode cX10_run 105 = .ok (.istore 4, 2) := by decide +kernel
theorem dX10_run_107 : decode cX10_run 107 = .ok (.iload 4, 2) := by decide +kernel
theorem dX10_run_109 : decode cX10_run 109 = .ok (.iconst 4, 1) := by decide +kernel
theorem dX10_run_110 : decode cX10_run 110 = .ok (.if_icmp .ge 23, 3) := by decide +kernel
theorem dX10_run_113 : decode cX10_run 113 = .ok (.aload_n 0, 1) := by decide +kernel
theorem dX10_run_114 : decode cX10_run 114 = .ok (.getfield 68, 3) := by decide +kernel
theorem dX10_run_117 : decode cX10_run 117 = .ok (.iload 4, 2) := by decide +kernel
theorem dX10_run_119 : decode cX10_run 119 = .ok (.aload_n 0, 1) := by decide +kernel
theorem dX10_run_120 : decode cX10_run 120 = .ok (.getfield 65, 3) := by decide +kernel
theorem dX10_run_123 : decode cX10_run 123 = .ok (.iload 4, 2) := by decide +kernel
theorem dX10_run_125 : decode cX10_run 125 = .ok (.iaload, 1) := by decide +kernel
theorem dX10_run_126 : decode cX10_run 126 = .ok (.iastore, 1) := by decide +kernel
theorem dX10_run_127 : decode cX10_run 127 = .ok (.iinc 4 1, 3) := by decide +kernel
theorem dX10_run_130 : decode cX10_run 130 = .ok (.goto (-23), 3) := by decide +kernel
theorem dX10_run_133 : decode cX10_run 133 = .ok (.aload_n 0, 1) := by decide +kernel
theorem dX10_run_134 : decode cX10_run 134 = .ok (.iconst 0, 1) := by decide +kernel
theorem dX10_run_135 : decode cX10_run 135 = .ok (.putfield 146, 3) := by decide +kernel
theorem dX10_run_138 : decode cX10_run 138 = .ok (.aload_n 0, 1) := by decide +kernel
theorem dX10_run_139 : decode cX10_run 139 = .ok (.iload_n 1, 1) := by decide +kernel
theorem dX10_run_140 : decode cX10_run 140 = .ok (.putfield 140, 3) := by decide +kernel
theorem dX10_run_143 : decode cX10_run 143 = .ok (.aload_n 0, 1) := by decide +kernel
theorem dX10_run_144 : decode cX10_run 144 = .ok (.iconst 0, 1) := by decide +kernel
theorem dX10_run_145 : decode cX10_run 145 = .ok (.putfield 168, 3) := by decide +kernel
theorem dX10_run_148 : decode cX10_run 148 = .ok (.aload_n 0, 1) := by decide +kernel
theorem dX10_run_149 : decode cX10_run 149 = .ok (.iconst 0, 1) := by decide +kernel
theorem dX10_run_150 : decode cX10_run 150 = .ok (.putfield 137, 3) := by decide +kernel
theorem dX10_run_153 : decode cX10_run 153 = .ok (.aload_n 0, 1) := by decide +kernel
theorem dX10_run_154 : decode cX10_run 154 = .ok (.iconst 0, 1) := by decide +kernel
theorem dX10_run_155 : decode cX10_run 155 = .ok (.putfield 171, 3) := by decide +kernel
theorem dX10_run_158 : decode cX10_run 158 = .ok (.aload_n 0, 1) := by decide +kernel
theorem dX10_run_159 : decode cX10_run 159 = .ok (.iconst 0, 1) := by decide +kernel
theorem dX10_run_160 : decode cX10_run 160 = .ok (.putfield 143, 3) := by decide +kernel
theorem dX10_run_163 : decode cX10_run 163 = .ok (.aload_n 0, 1) := by decide +kernel
theorem dX10_run_164 : decode cX10_run 164 = .ok (.iconst 0, 1) := by decide +kernel
theorem dX10_run_165 : decode cX10_run 165 = .ok (.putfield 149, 3) := by decide +kernel
theorem dX10_run_168 : decode cX10_run 168 = .ok (.iconst 0, 1) := by decide +kernel
theorem dX10_run_169 : decode cX10_run 169 = .ok (.istore 4, 2) := by decide +kernel
theorem dX10_run_171 : decode cX10_run 171 = .ok (.iconst 1, 1) := by decide +kernel
theorem dX10_run_172 : decode cX10_run 172 = .ok (.istore 5, 2) := by decide +kernel
theorem dX10_run_174 : decode cX10_run 174 = .ok (.iload_n 3, 1) := by decide +kernel
theorem dX10_run_175 : decode cX10_run 175 = .ok (.ifCond .le 62, 3) := by decide +kernel
theorem dX10_run_178 : decode cX10_run 178 = .ok (.aload_n 0, 1) := by decide +kernel
theorem dX10_run_179 : decode cX10_run 179 = .ok (.getfield 143, 3) := by decide +kernel
theorem dX10_run_182 : decode cX10_run 182 = .ok (.ifCond .ne 55, 3) := by decide +kernel
theorem dX10_run_185 : decode cX10_run 185 = .ok (.aload_n 0, 1) := by decide +kernel
theorem dX10_run_186 : decode cX10_run 186 = .ok (.getfield 80, 3) := by decide +kernel
theorem dX10_run_189 : decode cX10_run 189 = .ok (.istore 6, 2) := by decide +kernel
theorem dX10_run_191 : decode cX10_run 191 = .ok (.aload_n 0, 1) := by decide +kernel
theorem dX10_run_192 : decode cX10_run 192 = .ok (.dup, 1) := by decide +kernel
theorem dX10_run_193 : decode cX10_run 193 = .ok (.getfield 168, 3) := by decide +kernel
theorem dX10_run_196 : decode cX10_run 196 = .ok (.iconst 1, 1) := by decide +kernel
theorem dX10_run_197 : decode cX10_run 197 = .ok (.iadd, 1) := by decide +kernel
theorem dX10_run_198 : decode cX10_run 198 = .ok (.putfield 168, 3) := by decide +kernel
theorem dX10_run_201 : decode cX10_run 201 = .ok (.aload_n 0, 1) := by decide +kernel
theorem dX10_run_202 : decode cX10_run 202 = .ok (.aload_n 0, 1) := by decide +kernel
theorem dX10_run_203 : decode cX10_run 203 = .ok (.getfield 168, 3) := by decide +kernel
theorem dX10_run_206 : decode cX10_run 206 = .ok (.putfield 137, 3) := by decide +kernel
theorem dX10_run_209 : decode cX10_run 209 = .ok (.aload_n 0, 1) := by decide +kernel
theorem dX10_run_210 : decode cX10_run 210 = .ok (.iload 4, 2) := by decide +kernel
theorem dX10_run_212 : decode cX10_run 212 = .ok (.iload 6, 2) := by decide +kernel
theorem dX10_run_214 : decode cX10_run 214 = .ok (.iload 5, 2) := by decide +kernel
theorem dX10_run_216 : decode cX10_run 216 = .ok (.invokevirtual 174, 3) := by decide +kernel
theorem dX10_run_219 : decode cX10_run 219 = .ok (.iconst 0, 1) := by decide +kernel
theorem dX10_run_220 : decode cX10_run 220 = .ok (.istore 5, 2) := by decide +kernel
theorem dX10_run_222 : decode cX10_run 222 = .ok (.iload 6, 2) := by decide +kernel
theorem dX10_run_224 : decode cX10_run 224 = .ok (.istore 4, 2) := by decide +kernel
theorem dX10_run_226 : decode cX10_run 226 = .ok (.aload_n 0, 1) := by decide +kernel
theorem dX10_run_227 : decode cX10_run 227 = .ok (.getfield 80, 3) := by decide +kernel
theorem dX10_run_230 : decode cX10_run 230 = .ok (.iload 6, 2) := by decide +kernel
theorem dX10_run_232 : decode cX10_run 232 = .ok (.isub, 1) := by decide +kernel
theorem dX10_run_233 : decode cX10_run 233 = .ok (.istore_n 3, 1) := by decide +kernel
theorem dX10_run_234 : decode cX10_run 234 = .ok (.goto (-60), 3) := by decide +kernel
theorem dX10_run_237 : decode cX10_run 237 = .ok (.aload_n 0, 1) := by decide +kernel
theorem dX10_run_238 : decode cX10_run 238 = .ok (.getfield 80, 3) := by decide +kernel
theorem dX10_run_241 : decode cX10_run 241 = .ok (.istore 6, 2) := by decide +kernel
theorem dX10_run_243 : decode cX10_run 243 = .ok (.aload_n 0, 1) := by decide +kernel
theorem dX10_run_244 : decode cX10_run 244 = .ok (.getfield 168, 3) := by decide +kernel
theorem dX10_run_247 : decode cX10_run 247 = .ok (.ifCond .le 50, 3) := by decide +kernel
theorem dX10_run_250 : decode cX10_run 250 = .ok (.aload_n 0, 1) := by decide +kernel
theorem dX10_run_251 : decode cX10_run 251 = .ok (.getfield 143, 3) := by decide +kernel
theorem dX10_run_254 : decode cX10_run 254 = .ok (.ifCond .ne 43, 3) := by decide +kernel
theorem dX10_run_257 : decode cX10_run 257 = .ok (.aload_n 0, 1) := by decide +kernel
theorem dX10_run_258 : decode cX10_run 258 = .ok (.iconst 1, 1) := by decide +kernel
theorem dX10_run_259 : decode cX10_run 259 = .ok (.putfield 149, 3) := by decide +kernel
theorem dX10_run_262 : decode cX10_run 262 = .ok (.aload_n 0, 1) := by decide +kernel
theorem dX10_run_263 : decode cX10_run 263 = .ok (.aload_n 0, 1) := by decide +kernel
theorem dX10_run_264 : decode cX10_run 264 = .ok (.getfield 168, 3) := by decide +kernel
theorem dX10_run_267 : decode cX10_run 267 = .ok (.iconst 1, 1) := by decide +kernel
theorem dX10_run_268 : decode cX10_run 268 = .ok (.iadd, 1) := by decide +kernel
theorem dX10_run_269 : decode cX10_run 269 = .ok (.putfield 137, 3) := by decide +kernel
theorem dX10_run_272 : decode cX10_run 272 = .ok (.iconst 0, 1) := by decide +kernel
theorem dX10_run_273 : decode cX10_run 273 = .ok (.istore 7, 2) := by decide +kernel
theorem dX10_run_275 : decode cX10_run 275 = .ok (.iload 7, 2) := by decide +kernel
theorem dX10_run_277 : decode cX10_run 277 = .ok (.aload_n 0, 1) := by decide +kernel
theorem dX10_run_278 : decode cX10_run 278 = .ok (.getfield 113, 3) := by decide +kernel
theorem dX10_run_281 : decode cX10_run 281 = .ok (.if_icmp .ge 16, 3) := by decide +kernel
theorem dX10_run_284 : decode cX10_run 284 = .ok (.aload_n 0, 1) := by decide +kernel
theorem dX10_run_285 : decode cX10_run 285 = .ok (.iload 7, 2) := by decide +kernel
theorem dX10_run_287 : decode cX10_run 287 = .ok (.iconst (-1), 1) := by decide +kernel
theorem dX10_run_288 : decode cX10_run 288 = .ok (.invokevirtual 163, 3) := by decide +kernel
theorem dX10_run_291 : decode cX10_run 291 = .ok (.iinc 7 1, 3) := by decide +kernel
theorem dX10_run_294 : decode cX10_run 294 = .ok (.goto (-19), 3) := by decide +kernel
theorem dX10_run_297 : decode cX10_run 297 = .ok (.aload_n 0, 1) := by decide +kernel
theorem dX10_run_298 : decode cX10_run 298 = .ok (.getfield 143, 3) := by decide +kernel
theorem dX10_run_301 : decode cX10_run 301 = .ok (.ifCond .ne 42, 3) := by decide +kernel
theorem dX10_run_304 : decode cX10_run 304 = .ok (.aload_n 0, 1) := by decide +kernel
theorem dX10_run_305 : decode cX10_run 305 = .ok (.aload_n 0, 1) := by decide +kernel
theorem dX10_run_306 : decode cX10_run 306 = .ok (.getfield 80, 3) := by decide +kernel
theorem dX10_run_309 : decode cX10_run 309 = .ok (.iload_n 2, 1) := by decide +kernel
theorem dX10_run_310 : decode cX10_run 310 = .ok (.isub, 1) := by decide +kernel
theorem dX10_run_311 : decode cX10_run 311 = .ok (.putfield 171, 3) := by decide +kernel
theorem dX10_run_314 : decode cX10_run 314 = .ok (.iconst 0, 1) := by decide +kernel
theorem dX10_run_315 : decode cX10_run 315 = .ok (.istore 7, 2) := by decide +kernel
theorem dX10_run_317 : decode cX10_run 317 = .ok (.iload 7, 2) := by decide +kernel
theorem dX10_run_319 : decode cX10_run 319 = .ok (.iload 6, 2) := by decide +kernel
theorem dX10_run_321 : decode cX10_run 321 = .ok (.if_icmp .ge 17, 3) := by decide +kernel
theorem dX10_run_324 : decode cX10_run 324 = .ok (.aload_n 0, 1) := by decide +kernel
theorem dX10_run_325 : decode cX10_run 325 = .ok (.getfield 53, 3) := by decide +kernel
theorem dX10_run_328 : decode cX10_run 328 = .ok (.iload 7, 2) := by decide +kernel
theorem dX10_run_330 : decode cX10_run 330 = .ok (.iconst 0, 1) := by decide +kernel
theorem dX10_run_331 : decode cX10_run 331 = .ok (.bastore, 1) := by decide +kernel
theorem dX10_run_332 : decode cX10_run 332 = .ok (.iinc 7 1, 3) := by decide +kernel
theorem dX10_run_335 : decode cX10_run 335 = .ok (.goto (-18), 3) := by decide +kernel
theorem dX10_run_338 : decode cX10_run 338 = .ok (.aload_n 0, 1) := by decide +kernel
theorem dX10_run_339 : decode cX10_run 339 = .ok (.getfield 168, 3) := by decide +kernel
theorem dX10_run_342 : decode cX10_run 342 = .ok (.ireturn, 1) := by decide +kernel
theorem dX10_run_343 : decode cX10_run 343 = .ok (.aload_n 0, 1) := by decide +kernel
theorem dX10_run_344 : decode cX10_run 344 = .ok (.iload_n 2, 1) := by decide +kernel
theorem dX10_run_345 : decode cX10_run 345 = .ok (.putfield 80, 3) := by decide +kernel
theorem dX10_run_348 : decode cX10_run 348 = .ok (.iconst 0, 1) := by decide +kernel
theorem dX10_run_349 : decode cX10_run 349 = .ok (.istore 7, 2) := by decide +kernel
theorem dX10_run_351 : decode cX10_run 351 = .ok (.iload 7, 2) := by decide +kernel
theorem dX10_run_353 : decode cX10_run 353 = .ok (.bipush 6, 2) := by decide +kernel
theorem dX10_run_355 : decode cX10_run 355 = .ok (.if_icmp .ge 23, 3) := by decide +kernel
theorem dX10_run_358 : decode cX10_run 358 = .ok (.aload_n 0, 1) := by decide +kernel
theorem dX10_run_359 : decode cX10_run 359 = .ok (.getfield 35, 3) := by decide +kernel
theorem dX10_run_362 : decode cX10_run 362 = .ok (.iload 7, 2) := by decide +kernel
theorem dX10_run_364 : decode cX10_run 364 = .ok (.aload_n 0, 1) := by decide +kernel
theorem dX10_run_365 : decode cX10_run 365 = .ok (.getfield 38, 3) := by decide +kernel
theorem dX10_run_368 : decode cX10_run 368 = .ok (.iload 7, 2) := by decide +kernel
theorem dX10_run_370 : decode cX10_run 370 = .ok (.iaload, 1) := by decide +kernel
theorem dX10_run_371 : decode cX10_run 371 = .ok (.iastore, 1) := by decide +kernel
theorem dX10_run_372 : decode cX10_run 372 = .ok (.iinc 7 1, 3) := by decide +kernel
theorem dX10_run_375 : decode cX10_run 375 = .ok (.goto (-24), 3) := by decide +kernel
theorem dX10_run_378 : decode cX10_run 378 = .ok (.iconst 0, 1) := by decide +kernel
theorem dX10_run_379 : decode cX10_run 379 = .ok (.istore 7, 2) := by decide +kernel
theorem dX10_run_381 : decode cX10_run 381 = .ok (.iload 7, 2) := by decide +kernel
theorem dX10_run_383 : decode cX10_run 383 = .ok (.iconst 4, 1) := by decide +kernel
theorem dX10_run_384 : decode cX10_run 384 = .ok (.if_icmp .ge 23, 3) := by decide +kernel
theorem dX10_run_387 : decode cX10_run 387 = .ok (.aload_n 0, 1) := by decide +kernel
theorem dX10_run_388 : decode cX10_run 388 = .ok (.getfield 65, 3) := by decide +kernel
theorem dX10_run_391 : decode cX10_run 391 = .ok (.iload 7, 2) := by decide +kernel
theorem dX10_run_393 : decode cX10_run 393 = .ok (.aload_n 0, 1) := by decide +kernel
theorem dX10_run_394 : decode cX10_run 394 = .ok (.getfield 68, 3) := by decide +kernel
theorem dX10_run_397 : decode cX10_run 397 = .ok (.iload 7, 2) := by decide +kernel
theorem dX10_run_399 : decode cX10_run 399 = .ok (.iaload, 1) := by decide +kernel
theorem dX10_run_400 : decode cX10_run 400 = .ok (.iastore, 1) := by decide +kernel
theorem dX10_run_401 : decode cX10_run 401 = .ok (.iinc 7 1, 3) := by decide +kernel
theorem dX10_run_404 : decode cX10_run 404 = .ok (.goto (-23), 3) := by decide +kernel
theorem dX10_run_407 : decode cX10_run 407 = .ok (.aload_n 0, 1) := by decide +kernel
theorem dX10_run_408 : decode cX10_run 408 = .ok (.getfield 143, 3) := by decide +kernel
theorem dX10_run_411 : decode cX10_run 411 = .ok (.iconst 1, 1) := by decide +kernel
theorem dX10_run_412 : decode cX10_run 412 = .ok (.if_icmp .ne 8, 3) := by decide +kernel
theorem dX10_run_415 : decode cX10_run 415 = .ok (.bipush (-11), 2) := by decide +kernel
theorem dX10_run_417 : decode cX10_run 417 = .ok (.goto 5, 3) := by decide +kernel
theorem dX10_run_420 : decode cX10_run 420 = .ok (.bipush (-12), 2) := by decide +kernel
theorem dX10_run_422 : decode cX10_run 422 = .ok (.ireturn, 1) := by decide +kernel
theorem dX10_mirror_0 : decode cX10_mirror 0 = .ok (.aload_n 0, 1) := by decide +kernel
theorem dX10_mirror_1 : decode cX10_mirror 1 = .ok (.iload_n 1, 1) := by decide +kernel
theorem dX10_mirror_2 : decode cX10_mirror 2 = .ok (.invokevirtual 125, 3) := by decide +kernel
theorem dX10_mirror_5 : decode cX10_mirror 5 = .ok (.ifCond .ne 6, 3) := by decide +kernel
theorem dX10_mirror_8 : decode cX10_mirror 8 = .ok (.bipush (-101), 2) := by decide +kernel
theorem dX10_mirror_10 : decode cX10_mirror 10 = .ok (.ireturn, 1) := by decide +kernel
theorem dX10_mirror_11 : decode cX10_mirror 11 = .ok (.iload_n 2, 1) := by decide +kernel
theorem dX10_mirror_12 : decode cX10_mirror 12 = .ok (.tableswitch 79 0 4 #[36, 43, 50, 65, 72], 36) := by decide +kernel
theorem dX10_mirror_48 : decode cX10_mirror 48 = .ok (.aload_n 0, 1) := by decide +kernel
theorem dX10_mirror_49 : decode cX10_mirror 49 = .ok (.getfield 47, 3) := by decide +kernel
theorem dX10_mirror_52 : decode cX10_mirror 52 = .ok (.iload_n 1, 1) := by decide +kernel
theorem dX10_mirror_53 : decode cX10_mirror 53 = .ok (.iaload, 1) := by decide +kernel
theorem dX10_mirror_54 : decode cX10_mirror 54 = .ok (.ireturn, 1) := by decide +kernel
theorem dX10_mirror_55 : decode cX10_mirror 55 = .ok (.aload_n 0, 1) := by decide +kernel
theorem dX10_mirror_56 : decode cX10_mirror 56 = .ok (.getfield 50, 3) := by decide +kernel
theorem dX10_mirror_59 : decode cX10_mirror 59 = .ok (.iload_n 1, 1) := by decide +kernel
theorem dX10_mirror_60 : decode cX10_mirror 60 = .ok (.iaload, 1) := by decide +kernel
theorem dX10_mirror_61 : decode cX10_mirror 61 = .ok (.ireturn, 1) := by decide +kernel
theorem dX10_mirror_62 : decode cX10_mirror 62 = .ok (.aload_n 0, 1) := by decide +kernel
theorem dX10_mirror_63 : decode cX10_mirror 63 = .ok (.getfield 53, 3) := by decide +kernel
theorem dX10_mirror_66 : decode cX10_mirror 66 = .ok (.iload_n 1, 1) := by decide +kernel
theorem dX10_mirror_67 : decode cX10_mirror 67 = .ok (.baload, 1) := by decide +kernel
theorem dX10_mirror_68 : decode cX10_mirror 68 = .ok (.ifCond .eq 7, 3) := by decide +kernel
theorem dX10_mirror_71 : decode cX10_mirror 71 = .ok (.iconst 1, 1) := by decide +kernel
theorem dX10_mirror_72 : decode cX10_mirror 72 = .ok (.goto 4, 3) := by decide +kernel
theorem dX10_mirror_75 : decode cX10_mirror 75 = .ok (.iconst 0, 1) := by decide +kernel
theorem dX10_mirror_76 : decode cX10_mirror 76 = .ok (.ireturn, 1) := by decide +kernel
theorem dX10_mirror_77 : decode cX10_mirror 77 = .ok (.aload_n 0, 1) := by decide +kernel
theorem dX10_mirror_78 : decode cX10_mirror 78 = .ok (.getfield 56, 3) := by decide +kernel
theorem dX10_mirror_81 : decode cX10_mirror 81 = .ok (.iload_n 1, 1) := by decide +kernel
theorem dX10_mirror_82 : decode cX10_mirror 82 = .ok (.iaload, 1) := by decide +kernel
theorem dX10_mirror_83 : decode cX10_mirror 83 = .ok (.ireturn, 1) := by decide +kernel
theorem dX10_mirror_84 : decode cX10_mirror 84 = .ok (.aload_n 0, 1) := by decide +kernel
theorem dX10_mirror_85 : decode cX10_mirror 85 = .ok (.getfield 59, 3) := by decide +kernel
theorem dX10_mirror_88 : decode cX10_mirror 88 = .ok (.iload_n 1, 1) := by decide +kernel
theorem dX10_mirror_89 : decode cX10_mirror 89 = .ok (.iaload, 1) := by decide +kernel
theorem dX10_mirror_90 : decode cX10_mirror 90 = .ok (.ireturn, 1) := by decide +kernel
theorem dX10_mirror_91 : decode cX10_mirror 91 = .ok (.bipush (-102), 2) := by decide +kernel
theorem dX10_mirror_93 : decode cX10_mirror 93 = .ok (.ireturn, 1) := by decide +kernel
theorem dX10_message_0 : decode cX10_message 0 = .ok (.iload_n 1, 1) := by decide +kernel
theorem dX10_message_1 : decode cX10_message 1 = .ok (.i2l, 1) := by decide +kernel
theorem dX10_message_2 : decode cX10_message 2 = .ok (.lconst 0, 1) := by decide +kernel
theorem dX10_message_3 : decode cX10_message 3 = .ok (.aload_n 0, 1) := by decide +kernel
theorem dX10_message_4 : decode cX10_message 4 = .ok (.getfield 134, 3) := by decide +kernel
theorem dX10_message_7 : decode cX10_message 7 = .ok (.iconst 1, 1) := by decide +kernel
theorem dX10_message_8 : decode cX10_message 8 = .ok (.isub, 1) := by decide +kernel
theorem dX10_message_9 : decode cX10_message 9 = .ok (.i2l, 1) := by decide +kernel
theorem dX10_message_10 : decode cX10_message 10 = .ok (.invokestatic 89, 3) := by decide +kernel
theorem dX10_message_13 : decode cX10_message 13 = .ok (.ifCond .ne 6, 3) := by decide +kernel
theorem dX10_message_16 : decode cX10_message 16 = .ok (.bipush (-101), 2) := by decide +kernel
theorem dX10_message_18 : decode cX10_message 18 = .ok (.ireturn, 1) := by decide +kernel
theorem dX10_message_19 : decode cX10_message 19 = .ok (.iload_n 2, 1) := by decide +kernel
theorem dX10_message_20 : decode cX10_message 20 = .ok (.i2l, 1) := by decide +kernel
theorem dX10_message_21 : decode cX10_message 21 = .ok (.lconst 0, 1) := by decide +kernel
theorem dX10_message_22 : decode cX10_message 22 = .ok (.ldc2_w 178, 3) := by decide +kernel
theorem dX10_message_25 : decode cX10_message 25 = .ok (.invokestatic 89, 3) := by decide +kernel
theorem dX10_message_28 : decode cX10_message 28 = .ok (.ifCond .eq 16, 3) := by decide +kernel
theorem dX10_message_31 : decode cX10_message 31 = .ok (.aload_n 0, 1) := by decide +kernel
theorem dX10_message_32 : decode cX10_message 32 = .ok (.getfield 74, 3) := by decide +kernel
theorem dX10_message_35 : decode cX10_message 35 = .ok (.iconst 5, 1) := by decide +kernel
theorem dX10_message_36 : decode cX10_message 36 = .ok (.iload_n 1, 1) := by decide +kernel
theorem dX10_message_37 : decode cX10_message 37 = .ok (.imul, 1) := by decide +kernel
theorem dX10_message_38 : decode cX10_message 38 = .ok (.iload_n 2, 1) := by decide +kernel
theorem dX10_message_39 : decode cX10_message 39 = .ok (.iadd, 1) := by decide +kernel
theorem dX10_message_40 : decode cX10_message 40 = .ok (.iaload, 1) := by decide +kernel
theorem dX10_message_41 : decode cX10_message 41 = .ok (.goto 5, 3) := by decide +kernel
theorem dX10_message_44 : decode cX10_message 44 = .ok (.bipush (-102), 2) := by decide +kernel
theorem dX10_message_46 : decode cX10_message 46 = .ok (.ireturn, 1) := by decide +kernel
theorem dX10_told_0 : decode cX10_told 0 = .ok (.iload_n 1, 1) := by decide +kernel
theorem dX10_told_1 : decode cX10_told 1 = .ok (.i2l, 1) := by decide +kernel
theorem dX10_told_2 : decode cX10_told 2 = .ok (.lconst 0, 1) := by decide +kernel
theorem dX10_told_3 : decode cX10_told 3 = .ok (.aload_n 0, 1) := by decide +kernel
theorem dX10_told_4 : decode cX10_told 4 = .ok (.getfield 113, 3) := by decide +kernel
theorem dX10_told_7 : decode cX10_told 7 = .ok (.iconst 1, 1) := by decide +kernel
theorem dX10_told_8 : decode cX10_told 8 = .ok (.isub, 1) := by decide +kernel
theorem dX10_told_9 : decode cX10_told 9 = .ok (.i2l, 1) := by decide +kernel
theorem dX10_told_10 : decode cX10_told 10 = .ok (.invokestatic 89, 3) := by decide +kernel
theorem dX10_told_13 : decode cX10_told 13 = .ok (.ifCond .ne 6, 3) := by decide +kernel
theorem dX10_told_16 : decode cX10_told 16 = .ok (.bipush (-101), 2) := by decide +kernel
theorem dX10_told_18 : decode cX10_told 18 = .ok (.ireturn, 1) := by decide +kernel
theorem dX10_told_19 : decode cX10_told 19 = .ok (.iload_n 2, 1) := by decide +kernel
theorem dX10_told_20 : decode cX10_told 20 = .ok (.tableswitch 68 0 3 #[32, 39, 46, 61], 32) := by decide +kernel
theorem dX10_told_52 : decode cX10_told 52 = .ok (.aload_n 0, 1) := by decide +kernel
theorem dX10_told_53 : decode cX10_told 53 = .ok (.getfield 26, 3) := by decide +kernel
theorem dX10_told_56 : decode cX10_told 56 = .ok (.iload_n 1, 1) := by decide +kernel
theorem dX10_told_57 : decode cX10_told 57 = .ok (.iaload, 1) := by decide +kernel
theorem dX10_told_58 : decode cX10_told 58 = .ok (.ireturn, 1) := by decide +kernel
theorem dX10_told_59 : decode cX10_told 59 = .ok (.aload_n 0, 1) := by decide +kernel
theorem dX10_told_60 : decode cX10_told 60 = .ok (.getfield 29, 3) := by decide +kernel
theorem dX10_told_63 : decode cX10_told 63 = .ok (.iload_n 1, 1) := by decide +kernel
theorem dX10_told_64 : decode cX10_told 64 = .ok (.iaload, 1) := by decide +kernel
theorem dX10_told_65 : decode cX10_told 65 = .ok (.ireturn, 1) := by decide +kernel
theorem dX10_told_66 : decode cX10_told 66 = .ok (.aload_n 0, 1) := by decide +kernel
theorem dX10_told_67 : decode cX10_told 67 = .ok (.getfield 41, 3) := by decide +kernel
theorem dX10_told_70 : decode cX10_told 70 = .ok (.iload_n 1, 1) := by decide +kernel
theorem dX10_told_71 : decode cX10_told 71 = .ok (.baload, 1) := by decide +kernel
theorem dX10_told_72 : decode cX10_told 72 = .ok (.ifCond .eq 7, 3) := by decide +kernel
theorem dX10_told_75 : decode cX10_told 75 = .ok (.iconst 1, 1) := by decide +kernel
theorem dX10_told_76 : decode cX10_told 76 = .ok (.goto 4, 3) := by decide +kernel
theorem dX10_told_79 : decode cX10_told 79 = .ok (.iconst 0, 1) := by decide +kernel
theorem dX10_told_80 : decode cX10_told 80 = .ok (.ireturn, 1) := by decide +kernel
theorem dX10_told_81 : decode cX10_told 81 = .ok (.aload_n 0, 1) := by decide +kernel
theorem dX10_told_82 : decode cX10_told 82 = .ok (.getfield 44, 3) := by decide +kernel
theorem dX10_told_85 : decode cX10_told 85 = .ok (.iload_n 1, 1) := by decide +kernel
theorem dX10_told_86 : decode cX10_told 86 = .ok (.iaload, 1) := by decide +kernel
theorem dX10_told_87 : decode cX10_told 87 = .ok (.ireturn, 1) := by decide +kernel
theorem dX10_told_88 : decode cX10_told 88 = .ok (.bipush (-102), 2) := by decide +kernel
theorem dX10_told_90 : decode cX10_told 90 = .ok (.ireturn, 1) := by decide +kernel
theorem dX10_cell_0 : decode cX10_cell 0 = .ok (.aload_n 0, 1) := by decide +kernel
theorem dX10_cell_1 : decode cX10_cell 1 = .ok (.iload_n 1, 1) := by decide +kernel
theorem dX10_cell_2 : decode cX10_cell 2 = .ok (.i2l, 1) := by decide +kernel
theorem dX10_cell_3 : decode cX10_cell 3 = .ok (.lconst 0, 1) := by decide +kernel
theorem dX10_cell_4 : decode cX10_cell 4 = .ok (.ldc2_w 98, 3) := by decide +kernel
theorem dX10_cell_7 : decode cX10_cell 7 = .ok (.invokestatic 89, 3) := by decide +kernel
theorem dX10_cell_10 : decode cX10_cell 10 = .ok (.ifCond .ne 7, 3) := by decide +kernel
theorem dX10_cell_13 : decode cX10_cell 13 = .ok (.iconst 1, 1) := by decide +kernel
theorem dX10_cell_14 : decode cX10_cell 14 = .ok (.goto 16, 3) := by decide +kernel
theorem dX10_cell_17 : decode cX10_cell 17 = .ok (.iload_n 1, 1) := by decide +kernel
theorem dX10_cell_18 : decode cX10_cell 18 = .ok (.aload_n 0, 1) := by decide +kernel
theorem dX10_cell_19 : decode cX10_cell 19 = .ok (.getfield 113, 3) := by decide +kernel
theorem dX10_cell_22 : decode cX10_cell 22 = .ok (.if_icmp .lt 7, 3) := by decide +kernel
theorem dX10_cell_25 : decode cX10_cell 25 = .ok (.iconst 2, 1) := by decide +kernel
theorem dX10_cell_26 : decode cX10_cell 26 = .ok (.goto 4, 3) := by decide +kernel
theorem dX10_cell_29 : decode cX10_cell 29 = .ok (.iconst 0, 1) := by decide +kernel
theorem dX10_cell_30 : decode cX10_cell 30 = .ok (.putfield 84, 3) := by decide +kernel
theorem dX10_cell_33 : decode cX10_cell 33 = .ok (.aload_n 0, 1) := by decide +kernel
theorem dX10_cell_34 : decode cX10_cell 34 = .ok (.getfield 84, 3) := by decide +kernel
theorem dX10_cell_37 : decode cX10_cell 37 = .ok (.ifCond .ne 12, 3) := by decide +kernel
theorem dX10_cell_40 : decode cX10_cell 40 = .ok (.aload_n 0, 1) := by decide +kernel
theorem dX10_cell_41 : decode cX10_cell 41 = .ok (.getfield 35, 3) := by decide +kernel
theorem dX10_cell_44 : decode cX10_cell 44 = .ok (.iload_n 1, 1) := by decide +kernel
theorem dX10_cell_45 : decode cX10_cell 45 = .ok (.iaload, 1) := by decide +kernel
theorem dX10_cell_46 : decode cX10_cell 46 = .ok (.goto 4, 3) := by decide +kernel
theorem dX10_cell_49 : decode cX10_cell 49 = .ok (.iconst 0, 1) := by decide +kernel
theorem dX10_cell_50 : decode cX10_cell 50 = .ok (.ireturn, 1) := by decide +kernel
theorem dX10_resource_0 : decode cX10_resource 0 = .ok (.iload_n 1, 1) := by decide +kernel
theorem dX10_resource_1 : decode cX10_resource 1 = .ok (.i2l, 1) := by decide +kernel
theorem dX10_resource_2 : decode cX10_resource 2 = .ok (.lconst 0, 1) := by decide +kernel
theorem dX10_resource_3 : decode cX10_resource 3 = .ok (.ldc2_w 128, 3) := by decide +kernel
theorem dX10_resource_6 : decode cX10_resource 6 = .ok (.invokestatic 89, 3) := by decide +kernel
theorem dX10_resource_9 : decode cX10_resource 9 = .ok (.ifCond .eq 41, 3) := by decide +kernel
theorem dX10_resource_12 : decode cX10_resource 12 = .ok (.iload_n 2, 1) := by decide +kernel
theorem dX10_resource_13 : decode cX10_resource 13 = .ok (.i2l, 1) := by decide +kernel
theorem dX10_resource_14 : decode cX10_resource 14 = .ok (.lconst 0, 1) := by decide +kernel
theorem dX10_resource_15 : decode cX10_resource 15 = .ok (.aload_n 0, 1) := by decide +kernel
theorem dX10_resource_16 : decode cX10_resource 16 = .ok (.getfield 65, 3) := by decide +kernel
theorem dX10_resource_19 : decode cX10_resource 19 = .ok (.iload_n 1, 1) := by decide +kernel
theorem dX10_resource_20 : decode cX10_resource 20 = .ok (.i2l, 1) := by decide +kernel
theorem dX10_resource_21 : decode cX10_resource 21 = .ok (.lconst 0, 1) := by decide +kernel
theorem dX10_resource_22 : decode cX10_resource 22 = .ok (.ldc2_w 128, 3) := by decide +kernel
theorem dX10_resource_25 : decode cX10_resource 25 = .ok (.invokestatic 89, 3) := by decide +kernel
theorem dX10_resource_28 : decode cX10_resource 28 = .ok (.ifCond .eq 7, 3) := by decide +kernel
theorem dX10_resource_31 : decode cX10_resource 31 = .ok (.iload_n 1, 1) := by decide +kernel
theorem dX10_resource_32 : decode cX10_resource 32 = .ok (.goto 4, 3) := by decide +kernel
theorem dX10_resource_35 : decode cX10_resource 35 = .ok (.iconst 0, 1) := by decide +kernel
theorem dX10_resource_36 : decode cX10_resource 36 = .ok (.iaload, 1) := by decide +kernel
theorem dX10_resource_37 : decode cX10_resource 37 = .ok (.iconst 1, 1) := by decide +kernel
theorem dX10_resource_38 : decode cX10_resource 38 = .ok (.isub, 1) := by decide +kernel
theorem dX10_resource_39 : decode cX10_resource 39 = .ok (.i2l, 1) := by decide +kernel
theorem dX10_resource_40 : decode cX10_resource 40 = .ok (.invokestatic 89, 3) := by decide +kernel
theorem dX10_resource_43 : decode cX10_resource 43 = .ok (.ifCond .eq 7, 3) := by decide +kernel
theorem dX10_resource_46 : decode cX10_resource 46 = .ok (.iconst 1, 1) := by decide +kernel
theorem dX10_resource_47 : decode cX10_resource 47 = .ok (.goto 4, 3) := by decide +kernel
theorem dX10_resource_50 : decode cX10_resource 50 = .ok (.iconst 0, 1) := by decide +kernel
theorem dX10_resource_51 : decode cX10_resource 51 = .ok (.istore_n 3, 1) := by decide +kernel
theorem dX10_resource_52 : decode cX10_resource 52 = .ok (.aload_n 0, 1) := by decide +kernel
theorem dX10_resource_53 : decode cX10_resource 53 = .ok (.iload_n 3, 1) := by decide +kernel
theorem dX10_resource_54 : decode cX10_resource 54 = .ok (.ifCond .eq 7, 3) := by decide +kernel
theorem dX10_resource_57 : decode cX10_resource 57 = .ok (.iconst 0, 1) := by decide +kernel
theorem dX10_resource_58 : decode cX10_resource 58 = .ok (.goto 4, 3) := by decide +kernel
theorem dX10_resource_61 : decode cX10_resource 61 = .ok (.iconst 1, 1) := by decide +kernel
theorem dX10_resource_62 : decode cX10_resource 62 = .ok (.putfield 84, 3) := by decide +kernel
theorem dX10_resource_65 : decode cX10_resource 65 = .ok (.iload_n 3, 1) := by decide +kernel
theorem dX10_resource_66 : decode cX10_resource 66 = .ok (.ifCond .eq 17, 3) := by decide +kernel
theorem dX10_resource_69 : decode cX10_resource 69 = .ok (.aload_n 0, 1) := by decide +kernel
theorem dX10_resource_70 : decode cX10_resource 70 = .ok (.getfield 71, 3) := by decide +kernel
theorem dX10_resource_73 : decode cX10_resource 73 = .ok (.bipush 100, 2) := by decide +kernel
theorem dX10_resource_75 : decode cX10_resource 75 = .ok (.iload_n 1, 1) := by decide +kernel
theorem dX10_resource_76 : decode cX10_resource 76 = .ok (.imul, 1) := by decide +kernel
theorem dX10_resource_77 : decode cX10_resource 77 = .ok (.iload_n 2, 1) := by decide +kernel
theorem dX10_resource_78 : decode cX10_resource 78 = .ok (.iadd, 1) := by decide +kernel
theorem dX10_resource_79 : decode cX10_resource 79 = .ok (.iaload, 1) := by decide +kernel
theorem dX10_resource_80 : decode cX10_resource 80 = .ok (.goto 4, 3) := by decide +kernel
theorem dX10_resource_83 : decode cX10_resource 83 = .ok (.iconst 0, 1) := by decide +kernel
theorem dX10_resource_84 : decode cX10_resource 84 = .ok (.ireturn, 1) := by decide +kernel
theorem dX10_about_0 : decode cX10_about 0 = .ok (.iconst 0, 1) := by decide +kernel
theorem dX10_about_1 : decode cX10_about 1 = .ok (.istore_n 2, 1) := by decide +kernel
theorem dX10_about_2 : decode cX10_about 2 = .ok (.iconst 0, 1) := by decide +kernel
theorem dX10_about_3 : decode cX10_about 3 = .ok (.istore_n 3, 1) := by decide +kernel
theorem dX10_about_4 : decode cX10_about 4 = .ok (.iload_n 3, 1) := by decide +kernel
theorem dX10_about_5 : decode cX10_about 5 = .ok (.aload_n 0, 1) := by decide +kernel
theorem dX10_about_6 : decode cX10_about 6 = .ok (.getfield 80, 3) := by decide +kernel
theorem dX10_about_9 : decode cX10_about 9 = .ok (.if_icmp .ge 26, 3) := by decide +kernel
theorem dX10_about_12 : decode cX10_about 12 = .ok (.iload_n 2, 1) := by decide +kernel
theorem dX10_about_13 : decode cX10_about 13 = .ok (.aload_n 0, 1) := by decide +kernel
theorem dX10_about_14 : decode cX10_about 14 = .ok (.getfield 53, 3) := by decide +kernel
theorem dX10_about_17 : decode cX10_about 17 = .ok (.iload_n 3, 1) := by decide +kernel
theorem dX10_about_18 : decode cX10_about 18 = .ok (.baload, 1) := by decide +kernel
theorem dX10_about_19 : decode cX10_about 19 = .ok (.ifCond .eq 7, 3) := by decide +kernel
theorem dX10_about_22 : decode cX10_about 22 = .ok (.iconst 1, 1) := by decide +kernel
theorem dX10_about_23 : decode cX10_about 23 = .ok (.goto 4, 3) := by decide +kernel
theorem dX10_about_26 : decode cX10_about 26 = .ok (.iconst 0, 1) := by decide +kernel
theorem dX10_about_27 : decode cX10_about 27 = .ok (.iadd, 1) := by decide +kernel
theorem dX10_about_28 : decode cX10_about 28 = .ok (.istore_n 2, 1) := by decide +kernel
theorem dX10_about_29 : decode cX10_about 29 = .ok (.iinc 3 1, 3) := by decide +kernel
theorem dX10_about_32 : decode cX10_about 32 = .ok (.goto (-28), 3) := by decide +kernel
theorem dX10_about_35 : decode cX10_about 35 = .ok (.iload_n 1, 1) := by decide +kernel
theorem dX10_about_36 : decode cX10_about 36 = .ok (.tableswitch 76 0 6 #[44, 49, 54, 59, 61, 66, 71], 44) := by decide +kernel
theorem dX10_about_80 : decode cX10_about 80 = .ok (.aload_n 0, 1) := by decide +kernel
theorem dX10_about_81 : decode cX10_about 81 = .ok (.getfield 80, 3) := by decide +kernel
theorem dX10_about_84 : decode cX10_about 84 = .ok (.ireturn, 1) := by decide +kernel
theorem dX10_about_85 : decode cX10_about 85 = .ok (.aload_n 0, 1) := by decide +kernel
theorem dX10_about_86 : decode cX10_about 86 = .ok (.getfield 113, 3) := by decide +kernel
theorem dX10_about_89 : decode cX10_about 89 = .ok (.ireturn, 1) := by decide +kernel
theorem dX10_about_90 : decode cX10_about 90 = .ok (.aload_n 0, 1) := by decide +kernel
theorem dX10_about_91 : decode cX10_about 91 = .ok (.getfield 134, 3) := by decide +kernel
theorem dX10_about_94 : decode cX10_about 94 = .ok (.ireturn, 1) := by decide +kernel
theorem dX10_about_95 : decode cX10_about 95 = .ok (.iload_n 2, 1) := by decide +kernel
theorem dX10_about_96 : decode cX10_about 96 = .ok (.ireturn, 1) := by decide +kernel
theorem dX10_about_97 : decode cX10_about 97 = .ok (.aload_n 0, 1) := by decide +kernel
theorem dX10_about_98 : decode cX10_about 98 = .ok (.getfield 146, 3) := by decide +kernel
theorem dX10_about_101 : decode cX10_about 101 = .ok (.ireturn, 1) := by decide +kernel
theorem dX10_about_102 : decode cX10_about 102 = .ok (.aload_n 0, 1) := by decide +kernel
theorem dX10_about_103 : decode cX10_about 103 = .ok (.getfield 168, 3) := by decide +kernel
theorem dX10_about_106 : decode cX10_about 106 = .ok (.ireturn, 1) := by decide +kernel
theorem dX10_about_107 : decode cX10_about 107 = .ok (.aload_n 0, 1) := by decide +kernel
theorem dX10_about_108 : decode cX10_about 108 = .ok (.getfield 171, 3) := by decide +kernel
theorem dX10_about_111 : decode cX10_about 111 = .ok (.ireturn, 1) := by decide +kernel
theorem dX10_about_112 : decode cX10_about 112 = .ok (.iload_n 1, 1) := by decide +kernel
theorem dX10_about_113 : decode cX10_about 113 = .ok (.i2l, 1) := by decide +kernel
theorem dX10_about_114 : decode cX10_about 114 = .ok (.ldc2_w 180, 3) := by decide +kernel
theorem dX10_about_117 : decode cX10_about 117 = .ok (.ldc2_w 182, 3) := by decide +kernel
theorem dX10_about_120 : decode cX10_about 120 = .ok (.invokestatic 89, 3) := by decide +kernel
theorem dX10_about_123 : decode cX10_about 123 = .ok (.ifCond .eq 15, 3) := by decide +kernel
theorem dX10_about_126 : decode cX10_about 126 = .ok (.aload_n 0, 1) := by decide +kernel
theorem dX10_about_127 : decode cX10_about 127 = .ok (.getfield 65, 3) := by decide +kernel
theorem dX10_about_130 : decode cX10_about 130 = .ok (.iload_n 1, 1) := by decide +kernel
theorem dX10_about_131 : decode cX10_about 131 = .ok (.bipush 10, 2) := by decide +kernel
theorem dX10_about_133 : decode cX10_about 133 = .ok (.isub, 1) := by decide +kernel
theorem dX10_about_134 : decode cX10_about 134 = .ok (.iaload, 1) := by decide +kernel
theorem dX10_about_135 : decode cX10_about 135 = .ok (.goto 5, 3) := by decide +kernel
theorem dX10_about_138 : decode cX10_about 138 = .ok (.bipush (-102), 2) := by decide +kernel
theorem dX10_about_140 : decode cX10_about 140 = .ok (.ireturn, 1) := by decide +kernel
theorem dX10_clear_0 : decode cX10_clear 0 = .ok (.aload_n 0, 1) := by decide +kernel
theorem dX10_clear_1 : decode cX10_clear 1 = .ok (.getfield 80, 3) := by decide +kernel
theorem dX10_clear_4 : decode cX10_clear 4 = .ok (.istore_n 1, 1) := by decide +kernel
theorem dX10_clear_5 : decode cX10_clear 5 = .ok (.aload_n 0, 1) := by decide +kernel
theorem dX10_clear_6 : decode cX10_clear 6 = .ok (.iconst 0, 1) := by decide +kernel
theorem dX10_clear_7 : decode cX10_clear 7 = .ok (.putfield 80, 3) := by decide +kernel
theorem dX10_clear_10 : decode cX10_clear 10 = .ok (.aload_n 0, 1) := by decide +kernel
theorem dX10_clear_11 : decode cX10_clear 11 = .ok (.iconst 0, 1) := by decide +kernel
theorem dX10_clear_12 : decode cX10_clear 12 = .ok (.putfield 113, 3) := by decide +kernel
theorem dX10_clear_15 : decode cX10_clear 15 = .ok (.aload_n 0, 1) := by decide +kernel
theorem dX10_clear_16 : decode cX10_clear 16 = .ok (.iconst 0, 1) := by decide +kernel
theorem dX10_clear_17 : decode cX10_clear 17 = .ok (.putfield 134, 3) := by decide +kernel
theorem dX10_clear_20 : decode cX10_clear 20 = .ok (.iconst 0, 1) := by decide +kernel
theorem dX10_clear_21 : decode cX10_clear 21 = .ok (.istore_n 2, 1) := by decide +kernel
theorem dX10_clear_22 : decode cX10_clear 22 = .ok (.iload_n 2, 1) := by decide +kernel
theorem dX10_clear_23 : decode cX10_clear 23 = .ok (.iconst 4, 1) := by decide +kernel
theorem dX10_clear_24 : decode cX10_clear 24 = .ok (.if_icmp .ge 16, 3) := by decide +kernel
theorem dX10_clear_27 : decode cX10_clear 27 = .ok (.aload_n 0, 1) := by decide +kernel
theorem dX10_clear_28 : decode cX10_clear 28 = .ok (.getfield 65, 3) := by decide +kernel
theorem dX10_clear_31 : decode cX10_clear 31 = .ok (.iload_n 2, 1) := by decide +kernel
theorem dX10_clear_32 : decode cX10_clear 32 = .ok (.iconst 0, 1) := by decide +kernel
theorem dX10_clear_33 : decode cX10_clear 33 = .ok (.iastore, 1) := by decide +kernel
theorem dX10_clear_34 : decode cX10_clear 34 = .ok (.iinc 2 1, 3) := by decide +kernel
theorem dX10_clear_37 : decode cX10_clear 37 = .ok (.goto (-15), 3) := by decide +kernel
theorem dX10_clear_40 : decode cX10_clear 40 = .ok (.iload_n 1, 1) := by decide +kernel
theorem dX10_clear_41 : decode cX10_clear 41 = .ok (.ireturn, 1) := by decide +kernel
