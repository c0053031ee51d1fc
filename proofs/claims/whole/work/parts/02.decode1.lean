theorem dX5_read_104 : decode cX5_read 104 = .ok (.iload_n 3, 1) := by decide +kernel
theorem dX5_read_105 : decode cX5_read 105 = .ok (.ifCond .eq 23, 3) := by decide +kernel
theorem dX5_read_108 : decode cX5_read 108 = .ok (.aload_n 0, 1) := by decide +kernel
theorem dX5_read_109 : decode cX5_read 109 = .ok (.dup, 1) := by decide +kernel
theorem dX5_read_110 : decode cX5_read 110 = .ok (.getfield 37, 3) := by decide +kernel
theorem dX5_read_113 : decode cX5_read 113 = .ok (.iconst 1, 1) := by decide +kernel
theorem dX5_read_114 : decode cX5_read 114 = .ok (.iadd, 1) := by decide +kernel
theorem dX5_read_115 : decode cX5_read 115 = .ok (.putfield 37, 3) := by decide +kernel
theorem dX5_read_118 : decode cX5_read 118 = .ok (.iload_n 2, 1) := by decide +kernel
theorem dX5_read_119 : decode cX5_read 119 = .ok (.istore_n 1, 1) := by decide +kernel
theorem dX5_read_120 : decode cX5_read 120 = .ok (.iconst 0, 1) := by decide +kernel
theorem dX5_read_121 : decode cX5_read 121 = .ok (.istore_n 3, 1) := by decide +kernel
theorem dX5_read_122 : decode cX5_read 122 = .ok (.iconst 0, 1) := by decide +kernel
theorem dX5_read_123 : decode cX5_read 123 = .ok (.istore 4, 2) := by decide +kernel
theorem dX5_read_125 : decode cX5_read 125 = .ok (.goto 53, 3) := by decide +kernel
theorem dX5_read_128 : decode cX5_read 128 = .ok (.iload 6, 2) := by decide +kernel
theorem dX5_read_130 : decode cX5_read 130 = .ok (.bipush 41, 2) := by decide +kernel
theorem dX5_read_132 : decode cX5_read 132 = .ok (.if_icmp .ne 41, 3) := by decide +kernel
theorem dX5_read_135 : decode cX5_read 135 = .ok (.iload 4, 2) := by decide +kernel
theorem dX5_read_137 : decode cX5_read 137 = .ok (.ifCond .eq 36, 3) := by decide +kernel
theorem dX5_read_140 : decode cX5_read 140 = .ok (.aload_n 0, 1) := by decide +kernel
theorem dX5_read_141 : decode cX5_read 141 = .ok (.dup, 1) := by decide +kernel
theorem dX5_read_142 : decode cX5_read 142 = .ok (.getfield 37, 3) := by decide +kernel
theorem dX5_read_145 : decode cX5_read 145 = .ok (.iconst 1, 1) := by decide +kernel
theorem dX5_read_146 : decode cX5_read 146 = .ok (.iadd, 1) := by decide +kernel
theorem dX5_read_147 : decode cX5_read 147 = .ok (.putfield 37, 3) := by decide +kernel
theorem dX5_read_150 : decode cX5_read 150 = .ok (.aload_n 0, 1) := by decide +kernel
theorem dX5_read_151 : decode cX5_read 151 = .ok (.getfield 24, 3) := by decide +kernel
theorem dX5_read_154 : decode cX5_read 154 = .ok (.iload_n 1, 1) := by decide +kernel
theorem dX5_read_155 : decode cX5_read 155 = .ok (.iaload, 1) := by decide +kernel
theorem dX5_read_156 : decode cX5_read 156 = .ok (.istore_n 1, 1) := by decide +kernel
theorem dX5_read_157 : decode cX5_read 157 = .ok (.iconst 0, 1) := by decide +kernel
theorem dX5_read_158 : decode cX5_read 158 = .ok (.istore_n 3, 1) := by decide +kernel
theorem dX5_read_159 : decode cX5_read 159 = .ok (.iload_n 1, 1) := by decide +kernel
theorem dX5_read_160 : decode cX5_read 160 = .ok (.ifCond .eq 7, 3) := by decide +kernel
theorem dX5_read_163 : decode cX5_read 163 = .ok (.iconst 1, 1) := by decide +kernel
theorem dX5_read_164 : decode cX5_read 164 = .ok (.goto 4, 3) := by decide +kernel
theorem dX5_read_167 : decode cX5_read 167 = .ok (.iconst 0, 1) := by decide +kernel
theorem dX5_read_168 : decode cX5_read 168 = .ok (.istore 4, 2) := by decide +kernel
theorem dX5_read_170 : decode cX5_read 170 = .ok (.goto 8, 3) := by decide +kernel
theorem dX5_read_173 : decode cX5_read 173 = .ok (.aload_n 0, 1) := by decide +kernel
theorem dX5_read_174 : decode cX5_read 174 = .ok (.getfield 37, 3) := by decide +kernel
theorem dX5_read_177 : decode cX5_read 177 = .ok (.ireturn, 1) := by decide +kernel
theorem dX5_read_178 : decode cX5_read 178 = .ok (.iinc 5 1, 3) := by decide +kernel
theorem dX5_read_181 : decode cX5_read 181 = .ok (.goto (-149), 3) := by decide +kernel
theorem dX5_read_184 : decode cX5_read 184 = .ok (.iload_n 1, 1) := by decide +kernel
theorem dX5_read_185 : decode cX5_read 185 = .ok (.ifCond .ne 7, 3) := by decide +kernel
theorem dX5_read_188 : decode cX5_read 188 = .ok (.iconst (-1), 1) := by decide +kernel
theorem dX5_read_189 : decode cX5_read 189 = .ok (.goto 7, 3) := by decide +kernel
theorem dX5_read_192 : decode cX5_read 192 = .ok (.aload_n 0, 1) := by decide +kernel
theorem dX5_read_193 : decode cX5_read 193 = .ok (.getfield 27, 3) := by decide +kernel
theorem dX5_read_196 : decode cX5_read 196 = .ok (.ireturn, 1) := by decide +kernel
theorem dX5_readStream_0 : decode cX5_readStream 0 = .ok (.aload_n 0, 1) := by decide +kernel
theorem dX5_readStream_1 : decode cX5_readStream 1 = .ok (.getfield 37, 3) := by decide +kernel
theorem dX5_readStream_4 : decode cX5_readStream 4 = .ok (.istore_n 2, 1) := by decide +kernel
theorem dX5_readStream_5 : decode cX5_readStream 5 = .ok (.aload_n 0, 1) := by decide +kernel
theorem dX5_readStream_6 : decode cX5_readStream 6 = .ok (.bipush 12, 2) := by decide +kernel
theorem dX5_readStream_8 : decode cX5_readStream 8 = .ok (.invokevirtual 55, 3) := by decide +kernel
theorem dX5_readStream_11 : decode cX5_readStream 11 = .ok (.istore_n 3, 1) := by decide +kernel
theorem dX5_readStream_12 : decode cX5_readStream 12 = .ok (.aload_n 0, 1) := by decide +kernel
theorem dX5_readStream_13 : decode cX5_readStream 13 = .ok (.getfield 40, 3) := by decide +kernel
theorem dX5_readStream_16 : decode cX5_readStream 16 = .ok (.iconst (-1), 1) := by decide +kernel
theorem dX5_readStream_17 : decode cX5_readStream 17 = .ok (.if_icmp .ne 19, 3) := by decide +kernel
theorem dX5_readStream_20 : decode cX5_readStream 20 = .ok (.aload_n 0, 1) := by decide +kernel
theorem dX5_readStream_21 : decode cX5_readStream 21 = .ok (.getfield 34, 3) := by decide +kernel
theorem dX5_readStream_24 : decode cX5_readStream 24 = .ok (.iload_n 3, 1) := by decide +kernel
theorem dX5_readStream_25 : decode cX5_readStream 25 = .ok (.invokestatic 58, 3) := by decide +kernel
theorem dX5_readStream_28 : decode cX5_readStream 28 = .ok (.ifCond .eq 8, 3) := by decide +kernel
theorem dX5_readStream_31 : decode cX5_readStream 31 = .ok (.aload_n 0, 1) := by decide +kernel
theorem dX5_readStream_32 : decode cX5_readStream 32 = .ok (.iload_n 2, 1) := by decide +kernel
theorem dX5_readStream_33 : decode cX5_readStream 33 = .ok (.putfield 40, 3) := by decide +kernel
theorem dX5_readStream_36 : decode cX5_readStream 36 = .ok (.aload_n 0, 1) := by decide +kernel
theorem dX5_readStream_37 : decode cX5_readStream 37 = .ok (.getfield 40, 3) := by decide +kernel
theorem dX5_readStream_40 : decode cX5_readStream 40 = .ok (.iconst (-1), 1) := by decide +kernel
theorem dX5_readStream_41 : decode cX5_readStream 41 = .ok (.if_icmp .ne 20, 3) := by decide +kernel
theorem dX5_readStream_44 : decode cX5_readStream 44 = .ok (.aload_n 0, 1) := by decide +kernel
theorem dX5_readStream_45 : decode cX5_readStream 45 = .ok (.invokevirtual 43, 3) := by decide +kernel
theorem dX5_readStream_48 : decode cX5_readStream 48 = .ok (.bipush 58, 2) := by decide +kernel
theorem dX5_readStream_50 : decode cX5_readStream 50 = .ok (.if_icmp .eq 11, 3) := by decide +kernel
theorem dX5_readStream_53 : decode cX5_readStream 53 = .ok (.aload_n 0, 1) := by decide +kernel
theorem dX5_readStream_54 : decode cX5_readStream 54 = .ok (.aload_n 0, 1) := by decide +kernel
theorem dX5_readStream_55 : decode cX5_readStream 55 = .ok (.getfield 37, 3) := by decide +kernel
theorem dX5_readStream_58 : decode cX5_readStream 58 = .ok (.putfield 40, 3) := by decide +kernel
theorem dX5_readStream_61 : decode cX5_readStream 61 = .ok (.aload_n 0, 1) := by decide +kernel
theorem dX5_readStream_62 : decode cX5_readStream 62 = .ok (.getfield 40, 3) := by decide +kernel
theorem dX5_readStream_65 : decode cX5_readStream 65 = .ok (.iconst (-1), 1) := by decide +kernel
theorem dX5_readStream_66 : decode cX5_readStream 66 = .ok (.if_icmp .eq 5, 3) := by decide +kernel
theorem dX5_readStream_69 : decode cX5_readStream 69 = .ok (.iconst (-1), 1) := by decide +kernel
theorem dX5_readStream_70 : decode cX5_readStream 70 = .ok (.ireturn, 1) := by decide +kernel
theorem dX5_readStream_71 : decode cX5_readStream 71 = .ok (.aload_n 0, 1) := by decide +kernel
theorem dX5_readStream_72 : decode cX5_readStream 72 = .ok (.dup, 1) := by decide +kernel
theorem dX5_readStream_73 : decode cX5_readStream 73 = .ok (.getfield 37, 3) := by decide +kernel
theorem dX5_readStream_76 : decode cX5_readStream 76 = .ok (.iconst 1, 1) := by decide +kernel
theorem dX5_readStream_77 : decode cX5_readStream 77 = .ok (.iadd, 1) := by decide +kernel
theorem dX5_readStream_78 : decode cX5_readStream 78 = .ok (.putfield 37, 3) := by decide +kernel
theorem dX5_readStream_81 : decode cX5_readStream 81 = .ok (.aload_n 0, 1) := by decide +kernel
theorem dX5_readStream_82 : decode cX5_readStream 82 = .ok (.invokevirtual 43, 3) := by decide +kernel
theorem dX5_readStream_85 : decode cX5_readStream 85 = .ok (.pop, 1) := by decide +kernel
theorem dX5_readStream_86 : decode cX5_readStream 86 = .ok (.aload_n 0, 1) := by decide +kernel
theorem dX5_readStream_87 : decode cX5_readStream 87 = .ok (.bipush 16, 2) := by decide +kernel
theorem dX5_readStream_89 : decode cX5_readStream 89 = .ok (.invokevirtual 55, 3) := by decide +kernel
theorem dX5_readStream_92 : decode cX5_readStream 92 = .ok (.istore 4, 2) := by decide +kernel
theorem dX5_readStream_94 : decode cX5_readStream 94 = .ok (.aload_n 0, 1) := by decide +kernel
theorem dX5_readStream_95 : decode cX5_readStream 95 = .ok (.getfield 40, 3) := by decide +kernel
theorem dX5_readStream_98 : decode cX5_readStream 98 = .ok (.iconst (-1), 1) := by decide +kernel
theorem dX5_readStream_99 : decode cX5_readStream 99 = .ok (.if_icmp .eq 5, 3) := by decide +kernel
theorem dX5_readStream_102 : decode cX5_readStream 102 = .ok (.iconst (-1), 1) := by decide +kernel
theorem dX5_readStream_103 : decode cX5_readStream 103 = .ok (.ireturn, 1) := by decide +kernel
theorem dX5_readStream_104 : decode cX5_readStream 104 = .ok (.aload_n 0, 1) := by decide +kernel
theorem dX5_readStream_105 : decode cX5_readStream 105 = .ok (.iload_n 3, 1) := by decide +kernel
theorem dX5_readStream_106 : decode cX5_readStream 106 = .ok (.iload 4, 2) := by decide +kernel
theorem dX5_readStream_108 : decode cX5_readStream 108 = .ok (.iload_n 1, 1) := by decide +kernel
theorem dX5_readStream_109 : decode cX5_readStream 109 = .ok (.invokevirtual 62, 3) := by decide +kernel
theorem dX5_readStream_112 : decode cX5_readStream 112 = .ok (.iload_n 3, 1) := by decide +kernel
theorem dX5_readStream_113 : decode cX5_readStream 113 = .ok (.ireturn, 1) := by decide +kernel
theorem dX5_keepStream_0 : decode cX5_keepStream 0 = .ok (.aload_n 0, 1) := by decide +kernel
theorem dX5_keepStream_1 : decode cX5_keepStream 1 = .ok (.getfield 31, 3) := by decide +kernel
theorem dX5_keepStream_4 : decode cX5_keepStream 4 = .ok (.bipush 12, 2) := by decide +kernel
theorem dX5_keepStream_6 : decode cX5_keepStream 6 = .ok (.if_icmp .ge 43, 3) := by decide +kernel
theorem dX5_keepStream_9 : decode cX5_keepStream 9 = .ok (.aload_n 0, 1) := by decide +kernel
theorem dX5_keepStream_10 : decode cX5_keepStream 10 = .ok (.getfield 15, 3) := by decide +kernel
theorem dX5_keepStream_13 : decode cX5_keepStream 13 = .ok (.aload_n 0, 1) := by decide +kernel
theorem dX5_keepStream_14 : decode cX5_keepStream 14 = .ok (.getfield 31, 3) := by decide +kernel
theorem dX5_keepStream_17 : decode cX5_keepStream 17 = .ok (.iload_n 1, 1) := by decide +kernel
theorem dX5_keepStream_18 : decode cX5_keepStream 18 = .ok (.iastore, 1) := by decide +kernel
theorem dX5_keepStream_19 : decode cX5_keepStream 19 = .ok (.aload_n 0, 1) := by decide +kernel
theorem dX5_keepStream_20 : decode cX5_keepStream 20 = .ok (.getfield 18, 3) := by decide +kernel
theorem dX5_keepStream_23 : decode cX5_keepStream 23 = .ok (.aload_n 0, 1) := by decide +kernel
theorem dX5_keepStream_24 : decode cX5_keepStream 24 = .ok (.getfield 31, 3) := by decide +kernel
theorem dX5_keepStream_27 : decode cX5_keepStream 27 = .ok (.iload_n 2, 1) := by decide +kernel
theorem dX5_keepStream_28 : decode cX5_keepStream 28 = .ok (.iastore, 1) := by decide +kernel
theorem dX5_keepStream_29 : decode cX5_keepStream 29 = .ok (.aload_n 0, 1) := by decide +kernel
theorem dX5_keepStream_30 : decode cX5_keepStream 30 = .ok (.getfield 21, 3) := by decide +kernel
theorem dX5_keepStream_33 : decode cX5_keepStream 33 = .ok (.aload_n 0, 1) := by decide +kernel
theorem dX5_keepStream_34 : decode cX5_keepStream 34 = .ok (.getfield 31, 3) := by decide +kernel
theorem dX5_keepStream_37 : decode cX5_keepStream 37 = .ok (.iload_n 3, 1) := by decide +kernel
theorem dX5_keepStream_38 : decode cX5_keepStream 38 = .ok (.iastore, 1) := by decide +kernel
theorem dX5_keepStream_39 : decode cX5_keepStream 39 = .ok (.aload_n 0, 1) := by decide +kernel
theorem dX5_keepStream_40 : decode cX5_keepStream 40 = .ok (.dup, 1) := by decide +kernel
theorem dX5_keepStream_41 : decode cX5_keepStream 41 = .ok (.getfield 31, 3) := by decide +kernel
theorem dX5_keepStream_44 : decode cX5_keepStream 44 = .ok (.iconst 1, 1) := by decide +kernel
theorem dX5_keepStream_45 : decode cX5_keepStream 45 = .ok (.iadd, 1) := by decide +kernel
theorem dX5_keepStream_46 : decode cX5_keepStream 46 = .ok (.putfield 31, 3) := by decide +kernel
theorem dX5_keepStream_49 : decode cX5_keepStream 49 = .ok (.aload_n 0, 1) := by decide +kernel
theorem dX5_keepStream_50 : decode cX5_keepStream 50 = .ok (.getfield 24, 3) := by decide +kernel
theorem dX5_keepStream_53 : decode cX5_keepStream 53 = .ok (.iload_n 1, 1) := by decide +kernel
theorem dX5_keepStream_54 : decode cX5_keepStream 54 = .ok (.iload_n 3, 1) := by decide +kernel
theorem dX5_keepStream_55 : decode cX5_keepStream 55 = .ok (.iastore, 1) := by decide +kernel
theorem dX5_keepStream_56 : decode cX5_keepStream 56 = .ok (.aload_n 0, 1) := by decide +kernel
theorem dX5_keepStream_57 : decode cX5_keepStream 57 = .ok (.dup, 1) := by decide +kernel
theorem dX5_keepStream_58 : decode cX5_keepStream 58 = .ok (.getfield 34, 3) := by decide +kernel
theorem dX5_keepStream_61 : decode cX5_keepStream 61 = .ok (.iconst 1, 1) := by decide +kernel
theorem dX5_keepStream_62 : decode cX5_keepStream 62 = .ok (.iload_n 1, 1) := by decide +kernel
theorem dX5_keepStream_63 : decode cX5_keepStream 63 = .ok (.ishl, 1) := by decide +kernel
theorem dX5_keepStream_64 : decode cX5_keepStream 64 = .ok (.ior, 1) := by decide +kernel
theorem dX5_keepStream_65 : decode cX5_keepStream 65 = .ok (.putfield 34, 3) := by decide +kernel
theorem dX5_keepStream_68 : decode cX5_keepStream 68 = .ok (.return_, 1) := by decide +kernel
theorem dX5_readNumber_0 : decode cX5_readNumber 0 = .ok (.aload_n 0, 1) := by decide +kernel
theorem dX5_readNumber_1 : decode cX5_readNumber 1 = .ok (.getfield 37, 3) := by decide +kernel
theorem dX5_readNumber_4 : decode cX5_readNumber 4 = .ok (.istore_n 2, 1) := by decide +kernel
theorem dX5_readNumber_5 : decode cX5_readNumber 5 = .ok (.iconst 0, 1) := by decide +kernel
theorem dX5_readNumber_6 : decode cX5_readNumber 6 = .ok (.istore_n 3, 1) := by decide +kernel
theorem dX5_readNumber_7 : decode cX5_readNumber 7 = .ok (.iconst 0, 1) := by decide +kernel
theorem dX5_readNumber_8 : decode cX5_readNumber 8 = .ok (.istore 4, 2) := by decide +kernel
theorem dX5_readNumber_10 : decode cX5_readNumber 10 = .ok (.iload 4, 2) := by decide +kernel
theorem dX5_readNumber_12 : decode cX5_readNumber 12 = .ok (.iconst 2, 1) := by decide +kernel
theorem dX5_readNumber_13 : decode cX5_readNumber 13 = .ok (.if_icmp .ge 42, 3) := by decide +kernel
theorem dX5_readNumber_16 : decode cX5_readNumber 16 = .ok (.aload_n 0, 1) := by decide +kernel
theorem dX5_readNumber_17 : decode cX5_readNumber 17 = .ok (.invokevirtual 66, 3) := by decide +kernel
theorem dX5_readNumber_20 : decode cX5_readNumber 20 = .ok (.invokestatic 47, 3) := by decide +kernel
theorem dX5_readNumber_23 : decode cX5_readNumber 23 = .ok (.ifCond .eq 32, 3) := by decide +kernel
theorem dX5_readNumber_26 : decode cX5_readNumber 26 = .ok (.bipush 10, 2) := by decide +kernel
theorem dX5_readNumber_28 : decode cX5_readNumber 28 = .ok (.iload_n 3, 1) := by decide +kernel
theorem dX5_readNumber_29 : decode cX5_readNumber 29 = .ok (.imul, 1) := by decide +kernel
theorem dX5_readNumber_30 : decode cX5_readNumber 30 = .ok (.aload_n 0, 1) := by decide +kernel
theorem dX5_readNumber_31 : decode cX5_readNumber 31 = .ok (.invokevirtual 66, 3) := by decide +kernel
theorem dX5_readNumber_34 : decode cX5_readNumber 34 = .ok (.iadd, 1) := by decide +kernel
theorem dX5_readNumber_35 : decode cX5_readNumber 35 = .ok (.bipush 48, 2) := by decide +kernel
theorem dX5_readNumber_37 : decode cX5_readNumber 37 = .ok (.isub, 1) := by decide +kernel
theorem dX5_readNumber_38 : decode cX5_readNumber 38 = .ok (.istore_n 3, 1) := by decide +kernel
theorem dX5_readNumber_39 : decode cX5_readNumber 39 = .ok (.aload_n 0, 1) := by decide +kernel
theorem dX5_readNumber_40 : decode cX5_readNumber 40 = .ok (.dup, 1) := by decide +kernel
theorem dX5_readNumber_41 : decode cX5_readNumber 41 = .ok (.getfield 37, 3) := by decide +kernel
theorem dX5_readNumber_44 : decode cX5_readNumber 44 = .ok (.iconst 1, 1) := by decide +kernel
theorem dX5_readNumber_45 : decode cX5_readNumber 45 = .ok (.iadd, 1) := by decide +kernel
theorem dX5_readNumber_46 : decode cX5_readNumber 46 = .ok (.putfield 37, 3) := by decide +kernel
theorem dX5_readNumber_49 : decode cX5_readNumber 49 = .ok (.iinc 4 1, 3) := by decide +kernel
theorem dX5_readNumber_52 : decode cX5_readNumber 52 = .ok (.goto (-42), 3) := by decide +kernel
theorem dX5_readNumber_55 : decode cX5_readNumber 55 = .ok (.aload_n 0, 1) := by decide +kernel
theorem dX5_readNumber_56 : decode cX5_readNumber 56 = .ok (.getfield 37, 3) := by decide +kernel
theorem dX5_readNumber_59 : decode cX5_readNumber 59 = .ok (.iload_n 2, 1) := by decide +kernel
theorem dX5_readNumber_60 : decode cX5_readNumber 60 = .ok (.if_icmp .eq 13, 3) := by decide +kernel
theorem dX5_readNumber_63 : decode cX5_readNumber 63 = .ok (.aload_n 0, 1) := by decide +kernel
theorem dX5_readNumber_64 : decode cX5_readNumber 64 = .ok (.invokevirtual 66, 3) := by decide +kernel
theorem dX5_readNumber_67 : decode cX5_readNumber 67 = .ok (.invokestatic 47, 3) := by decide +kernel
theorem dX5_readNumber_70 : decode cX5_readNumber 70 = .ok (.ifCond .eq 14, 3) := by decide +kernel
theorem dX5_readNumber_73 : decode cX5_readNumber 73 = .ok (.aload_n 0, 1) := by decide +kernel
theorem dX5_readNumber_74 : decode cX5_readNumber 74 = .ok (.aload_n 0, 1) := by decide +kernel
theorem dX5_readNumber_75 : decode cX5_readNumber 75 = .ok (.getfield 37, 3) := by decide +kernel
theorem dX5_readNumber_78 : decode cX5_readNumber 78 = .ok (.putfield 40, 3) := by decide +kernel
theorem dX5_readNumber_81 : decode cX5_readNumber 81 = .ok (.goto 17, 3) := by decide +kernel
theorem dX5_readNumber_84 : decode cX5_readNumber 84 = .ok (.iload_n 3, 1) := by decide +kernel
theorem dX5_readNumber_85 : decode cX5_readNumber 85 = .ok (.iconst 1, 1) := by decide +kernel
theorem dX5_readNumber_86 : decode cX5_readNumber 86 = .ok (.iload_n 1, 1) := by decide +kernel
theorem dX5_readNumber_87 : decode cX5_readNumber 87 = .ok (.invokestatic 69, 3) := by decide +kernel
theorem dX5_readNumber_90 : decode cX5_readNumber 90 = .ok (.ifCond .ne 8, 3) := by decide +kernel
theorem dX5_readNumber_93 : decode cX5_readNumber 93 = .ok (.aload_n 0, 1) := by decide +kernel
theorem dX5_readNumber_94 : decode cX5_readNumber 94 = .ok (.iload_n 2, 1) := by decide +kernel
theorem dX5_readNumber_95 : decode cX5_readNumber 95 = .ok (.putfield 40, 3) := by decide +kernel
theorem dX5_readNumber_98 : decode cX5_readNumber 98 = .ok (.aload_n 0, 1) := by decide +kernel
theorem dX5_readNumber_99 : decode cX5_readNumber 99 = .ok (.getfield 40, 3) := by decide +kernel
theorem dX5_readNumber_102 : decode cX5_readNumber 102 = .ok (.iconst (-1), 1) := by decide +kernel
theorem dX5_readNumber_103 : decode cX5_readNumber 103 = .ok (.if_icmp .ne 7, 3) := by decide +kernel
theorem dX5_readNumber_106 : decode cX5_readNumber 106 = .ok (.iload_n 3, 1) := by decide +kernel
theorem dX5_readNumber_107 : decode cX5_readNumber 107 = .ok (.goto 4, 3) := by decide +kernel
theorem dX5_readNumber_110 : decode cX5_readNumber 110 = .ok (.iconst (-1), 1) := by decide +kernel
theorem dX5_readNumber_111 : decode cX5_readNumber 111 = .ok (.ireturn, 1) := by decide +kernel
theorem dX5_byteBehindBlanks_0 : decode cX5_byteBehindBlanks 0 = .ok (.iconst 0, 1) := by decide +kernel
theorem dX5_byteBehindBlanks_1 : decode cX5_byteBehindBlanks 1 = .ok (.istore_n 1, 1) := by decide +kernel
theorem dX5_byteBehindBlanks_2 : decode cX5_byteBehindBlanks 2 = .ok (.iload_n 1, 1) := by decide +kernel
theorem dX5_byteBehindBlanks_3 : decode cX5_byteBehindBlanks 3 = .ok (.bipush 120, 2) := by decide +kernel
theorem dX5_byteBehindBlanks_5 : decode cX5_byteBehindBlanks 5 = .ok (.if_icmp .ge 28, 3) := by decide +kernel
theorem dX5_byteBehindBlanks_8 : decode cX5_byteBehindBlanks 8 = .ok (.aload_n 0, 1) := by decide +kernel
theorem dX5_byteBehindBlanks_9 : decode cX5_byteBehindBlanks 9 = .ok (.invokevirtual 66, 3) := by decide +kernel
theorem dX5_byteBehindBlanks_12 : decode cX5_byteBehindBlanks 12 = .ok (.bipush 32, 2) := by decide +kernel
theorem dX5_byteBehindBlanks_14 : decode cX5_byteBehindBlanks 14 = .ok (.if_icmp .ne 19, 3) := by decide +kernel
theorem dX5_byteBehindBlanks_17 : decode cX5_byteBehindBlanks 17 = .ok (.aload_n 0, 1) := by decide +kernel
theorem dX5_byteBehindBlanks_18 : decode cX5_byteBehindBlanks 18 = .ok (.dup, 1) := by decide +kernel
theorem dX5_byteBehindBlanks_19 : decode cX5_byteBehindBlanks 19 = .ok (.getfield 37, 3) := by decide +kernel
theorem dX5_byteBehindBlanks_22 : decode cX5_byteBehindBlanks 22 = .ok (.iconst 1, 1) := by decide +kernel
theorem dX5_byteBehindBlanks_23 : decode cX5_byteBehindBlanks 23 = .ok (.iadd, 1) := by decide +kernel
theorem dX5_byteBehindBlanks_24 : decode cX5_byteBehindBlanks 24 = .ok (.putfield 37, 3) := by decide +kernel
theorem dX5_byteBehindBlanks_27 : decode cX5_byteBehindBlanks 27 = .ok (.iinc 1 1, 3) := by decide +kernel
theorem dX5_byteBehindBlanks_30 : decode cX5_byteBehindBlanks 30 = .ok (.goto (-28), 3) := by decide +kernel
theorem dX5_byteBehindBlanks_33 : decode cX5_byteBehindBlanks 33 = .ok (.aload_n 0, 1) := by decide +kernel
theorem dX5_byteBehindBlanks_34 : decode cX5_byteBehindBlanks 34 = .ok (.invokevirtual 66, 3) := by decide +kernel
theorem dX5_byteBehindBlanks_37 : decode cX5_byteBehindBlanks 37 = .ok (.ireturn, 1) := by decide +kernel
theorem dX5_byteHere_0 : decode cX5_byteHere 0 = .ok (.aload_n 0, 1) := by decide +kernel
theorem dX5_byteHere_1 : decode cX5_byteHere 1 = .ok (.getfield 37, 3) := by decide +kernel
theorem dX5_byteHere_4 : decode cX5_byteHere 4 = .ok (.aload_n 0, 1) := by decide +kernel
theorem dX5_byteHere_5 : decode cX5_byteHere 5 = .ok (.getfield 27, 3) := by decide +kernel
theorem dX5_byteHere_8 : decode cX5_byteHere 8 = .ok (.if_icmp .ge 15, 3) := by decide +kernel
theorem dX5_byteHere_11 : decode cX5_byteHere 11 = .ok (.aload_n 0, 1) := by decide +kernel
theorem dX5_byteHere_12 : decode cX5_byteHere 12 = .ok (.getfield 9, 3) := by decide +kernel
theorem dX5_byteHere_15 : decode cX5_byteHere 15 = .ok (.aload_n 0, 1) := by decide +kernel
theorem dX5_byteHere_16 : decode cX5_byteHere 16 = .ok (.getfield 37, 3) := by decide +kernel
theorem dX5_byteHere_19 : decode cX5_byteHere 19 = .ok (.iaload, 1) := by decide +kernel
theorem dX5_byteHere_20 : decode cX5_byteHere 20 = .ok (.goto 4, 3) := by decide +kernel
theorem dX5_byteHere_23 : decode cX5_byteHere 23 = .ok (.iconst (-1), 1) := by decide +kernel
theorem dX5_byteHere_24 : decode cX5_byteHere 24 = .ok (.ireturn, 1) := by decide +kernel
theorem dX5_isFigure_0 : decode cX5_isFigure 0 = .ok (.iload_n 0, 1) := by decide +kernel
theorem dX5_isFigure_1 : decode cX5_isFigure 1 = .ok (.bipush 48, 2) := by decide +kernel
theorem dX5_isFigure_3 : decode cX5_isFigure 3 = .ok (.bipush 57, 2) := by decide +kernel
theorem dX5_isFigure_5 : decode cX5_isFigure 5 = .ok (.invokestatic 69, 3) := by decide +kernel
theorem dX5_isFigure_8 : decode cX5_isFigure 8 = .ok (.ireturn, 1) := by decide +kernel
theorem dX6_init_0 : decode cX6_init 0 = .ok (.aload_n 0, 1) := by decide +kernel
theorem dX6_init_1 : decode cX6_init 1 = .ok (.invokespecial 1, 3) := by decide +kernel
theorem dX6_init_4 : decode cX6_init 4 = .ok (.aload_n 0, 1) := by decide +kernel
theorem dX6_init_5 : decode cX6_init 5 = .ok (.new 7, 3) := by decide +kernel
theorem dX6_init_8 : decode cX6_init 8 = .ok (.dup, 1) := by decide +kernel
theorem dX6_init_9 : decode cX6_init 9 = .ok (.invokespecial 9, 3) := by decide +kernel
theorem dX6_init_12 : decode cX6_init 12 = .ok (.putfield 10, 3) := by decide +kernel
theorem dX6_init_15 : decode cX6_init 15 = .ok (.aload_n 0, 1) := by decide +kernel
theorem dX6_init_16 : decode cX6_init 16 = .ok (.iconst 5, 1) := by decide +kernel
theorem dX6_init_17 : decode cX6_init 17 = .ok (.anewarray 7, 3) := by decide +kernel
theorem dX6_init_20 : decode cX6_init 20 = .ok (.putfield 16, 3) := by decide +kernel
theorem dX6_init_23 : decode cX6_init 23 = .ok (.iconst 0, 1) := by decide +kernel
theorem dX6_init_24 : decode cX6_init 24 = .ok (.istore_n 1, 1) := by decide +kernel
theorem dX6_init_25 : decode cX6_init 25 = .ok (.iload_n 1, 1) := by decide +kernel
theorem dX6_init_26 : decode cX6_init 26 = .ok (.iconst 5, 1) := by decide +kernel
theorem dX6_init_27 : decode cX6_init 27 = .ok (.if_icmp .ge 22, 3) := by decide +kernel
theorem dX6_init_30 : decode cX6_init 30 = .ok (.aload_n 0, 1) := by decide +kernel
theorem dX6_init_31 : decode cX6_init 31 = .ok (.getfield 16, 3) := by decide +kernel
theorem dX6_init_34 : decode cX6_init 34 = .ok (.iload_n 1, 1) := by decide +kernel
theorem dX6_init_35 : decode cX6_init 35 = .ok (.new 7, 3) := by decide +kernel
theorem dX6_init_38 : decode cX6_init 38 = .ok (.dup, 1) := by decide +kernel
theorem dX6_init_39 : decode cX6_init 39 = .ok (.invokespecial 9, 3) := by decide +kernel
theorem dX6_init_42 : decode cX6_init 42 = .ok (.aastore, 1) := by decide +kernel
theorem dX6_init_43 : decode cX6_init 43 = .ok (.iinc 1 1, 3) := by decide +kernel
theorem dX6_init_46 : decode cX6_init 46 = .ok (.goto (-21), 3) := by decide +kernel
theorem dX6_init_49 : decode cX6_init 49 = .ok (.aload_n 0, 1) := by decide +kernel
theorem dX6_init_50 : decode cX6_init 50 = .ok (.new 20, 3) := by decide +kernel
theorem dX6_init_53 : decode cX6_init 53 = .ok (.dup, 1) := by decide +kernel
theorem dX6_init_54 : decode cX6_init 54 = .ok (.invokespecial 22, 3) := by decide +kernel
theorem dX6_init_57 : decode cX6_init 57 = .ok (.putfield 23, 3) := by decide +kernel
theorem dX6_init_60 : decode cX6_init 60 = .ok (.aload_n 0, 1) := by decide +kernel
theorem dX6_init_61 : decode cX6_init 61 = .ok (.new 27, 3) := by decide +kernel
theorem dX6_init_64 : decode cX6_init 64 = .ok (.dup, 1) := by decide +kernel
theorem dX6_init_65 : decode cX6_init 65 = .ok (.invokespecial 29, 3) := by decide +kernel
theorem dX6_init_68 : decode cX6_init 68 = .ok (.putfield 30, 3) := by decide +kernel
theorem dX6_init_71 : decode cX6_init 71 = .ok (.return_, 1) := by decide +kernel
theorem dX6_comes_0 : decode cX6_comes 0 = .ok (.iload_n 1, 1) := by decide +kernel
theorem dX6_comes_1 : decode cX6_comes 1 = .ok (.iconst 1, 1) := by decide +kernel
theorem dX6_comes_2 : decode cX6_comes 2 = .ok (.bipush 12, 2) := by decide +kernel
theorem dX6_comes_4 : decode cX6_comes 4 = .ok (.invokestatic 34, 3) := by decide +kernel
theorem dX6_comes_7 : decode cX6_comes 7 = .ok (.ifCond .eq 34, 3) := by decide +kernel
theorem dX6_comes_10 : decode cX6_comes 10 = .ok (.aload_n 0, 1) := by decide +kernel
theorem dX6_comes_11 : decode cX6_comes 11 = .ok (.getfield 10, 3) := by decide +kernel
theorem dX6_comes_14 : decode cX6_comes 14 = .ok (.iload_n 2, 1) := by decide +kernel
theorem dX6_comes_15 : decode cX6_comes 15 = .ok (.invokevirtual 38, 3) := by decide +kernel
theorem dX6_comes_18 : decode cX6_comes 18 = .ok (.ifCond .eq 23, 3) := by decide +kernel
theorem dX6_comes_21 : decode cX6_comes 21 = .ok (.iload_n 3, 1) := by decide +kernel
theorem dX6_comes_22 : decode cX6_comes 22 = .ok (.iconst 1, 1) := by decide +kernel
theorem dX6_comes_23 : decode cX6_comes 23 = .ok (.bipush 16, 2) := by decide +kernel
theorem dX6_comes_25 : decode cX6_comes 25 = .ok (.invokestatic 34, 3) := by decide +kernel
theorem dX6_comes_28 : decode cX6_comes 28 = .ok (.ifCond .eq 13, 3) := by decide +kernel
theorem dX6_comes_31 : decode cX6_comes 31 = .ok (.iload 4, 2) := by decide +kernel
theorem dX6_comes_33 : decode cX6_comes 33 = .ok (.iconst 0, 1) := by decide +kernel
theorem dX6_comes_34 : decode cX6_comes 34 = .ok (.iconst 1, 1) := by decide +kernel
theorem dX6_comes_35 : decode cX6_comes 35 = .ok (.invokestatic 34, 3) := by decide +kernel
theorem dX6_comes_38 : decode cX6_comes 38 = .ok (.ifCond .ne 10, 3) := by decide +kernel
theorem dX6_comes_41 : decode cX6_comes 41 = .ok (.aload_n 0, 1) := by decide +kernel
theorem dX6_comes_42 : decode cX6_comes 42 = .ok (.bipush (-2), 2) := by decide +kernel
theorem dX6_comes_44 : decode cX6_comes 44 = .ok (.invokevirtual 42, 3) := by decide +kernel
theorem dX6_comes_47 : decode cX6_comes 47 = .ok (.ireturn, 1) := by decide +kernel
theorem dX6_comes_48 : decode cX6_comes 48 = .ok (.aload_n 0, 1) := by decide +kernel
theorem dX6_comes_49 : decode cX6_comes 49 = .ok (.getfield 10, 3) := by decide +kernel
theorem dX6_comes_52 : decode cX6_comes 52 = .ok (.iload_n 1, 1) := by decide +kernel
theorem dX6_comes_53 : decode cX6_comes 53 = .ok (.invokevirtual 46, 3) := by decide +kernel
theorem dX6_comes_56 : decode cX6_comes 56 = .ok (.ifCond .eq 10, 3) := by decide +kernel
theorem dX6_comes_59 : decode cX6_comes 59 = .ok (.aload_n 0, 1) := by decide +kernel
theorem dX6_comes_60 : decode cX6_comes 60 = .ok (.bipush (-3), 2) := by decide +kernel
theorem dX6_comes_62 : decode cX6_comes 62 = .ok (.invokevirtual 42, 3) := by decide +kernel
theorem dX6_comes_65 : decode cX6_comes 65 = .ok (.ireturn, 1) := by decide +kernel
theorem dX6_comes_66 : decode cX6_comes 66 = .ok (.aload_n 0, 1) := by decide +kernel
theorem dX6_comes_67 : decode cX6_comes 67 = .ok (.invokevirtual 49, 3) := by decide +kernel
theorem dX6_comes_70 : decode cX6_comes 70 = .ok (.aload_n 0, 1) := by decide +kernel
theorem dX6_comes_71 : decode cX6_comes 71 = .ok (.getfield 10, 3) := by decide +kernel
theorem dX6_comes_74 : decode cX6_comes 74 = .ok (.iload_n 1, 1) := by decide +kernel
theorem dX6_comes_75 : decode cX6_comes 75 = .ok (.iload_n 3, 1) := by decide +kernel
theorem dX6_comes_76 : decode cX6_comes 76 = .ok (.invokevirtual 52, 3) := by decide +kernel
theorem dX6_comes_79 : decode cX6_comes 79 = .ok (.aload_n 0, 1) := by decide +kernel
theorem dX6_comes_80 : decode cX6_comes 80 = .ok (.getfield 10, 3) := by decide +kernel
theorem dX6_comes_83 : decode cX6_comes 83 = .ok (.iload_n 1, 1) := by decide +kernel
theorem dX6_comes_84 : decode cX6_comes 84 = .ok (.iload_n 2, 1) := by decide +kernel
theorem dX6_comes_85 : decode cX6_comes 85 = .ok (.iload 4, 2) := by decide +kernel
theorem dX6_comes_87 : decode cX6_comes 87 = .ok (.iconst 1, 1) := by decide +kernel
theorem dX6_comes_88 : decode cX6_comes 88 = .ok (.if_icmp .ne 7, 3) := by decide +kernel
theorem dX6_comes_91 : decode cX6_comes 91 = .ok (.iconst 1, 1) := by decide +kernel
theorem dX6_comes_92 : decode cX6_comes 92 = .ok (.goto 4, 3) := by decide +kernel
theorem dX6_comes_95 : decode cX6_comes 95 = .ok (.iconst 0, 1) := by decide +kernel
theorem dX6_comes_96 : decode cX6_comes 96 = .ok (.invokevirtual 56, 3) := by decide +kernel
theorem dX6_comes_99 : decode cX6_comes 99 = .ok (.aload_n 0, 1) := by decide +kernel
theorem dX6_comes_100 : decode cX6_comes 100 = .ok (.getfield 10, 3) := by decide +kernel
theorem dX6_comes_103 : decode cX6_comes 103 = .ok (.iload_n 1, 1) := by decide +kernel
theorem dX6_comes_104 : decode cX6_comes 104 = .ok (.invokevirtual 60, 3) := by decide +kernel
theorem dX6_comes_107 : decode cX6_comes 107 = .ok (.ireturn, 1) := by decide +kernel
theorem dX6_moves_0 : decode cX6_moves 0 = .ok (.aload_n 0, 1) := by decide +kernel
theorem dX6_moves_1 : decode cX6_moves 1 = .ok (.getfield 10, 3) := by decide +kernel
theorem dX6_moves_4 : decode cX6_moves 4 = .ok (.iload_n 1, 1) := by decide +kernel
theorem dX6_moves_5 : decode cX6_moves 5 = .ok (.invokevirtual 46, 3) := by decide +kernel
theorem dX6_moves_8 : decode cX6_moves 8 = .ok (.ifCond .eq 39, 3) := by decide +kernel
theorem dX6_moves_11 : decode cX6_moves 11 = .ok (.aload_n 0, 1) := by decide +kernel
theorem dX6_moves_12 : decode cX6_moves 12 = .ok (.getfield 10, 3) := by decide +kernel
theorem dX6_moves_15 : decode cX6_moves 15 = .ok (.iload_n 2, 1) := by decide +kernel
theorem dX6_moves_16 : decode cX6_moves 16 = .ok (.invokevirtual 38, 3) := by decide +kernel
theorem dX6_moves_19 : decode cX6_moves 19 = .ok (.ifCond .eq 28, 3) := by decide +kernel
theorem dX6_moves_22 : decode cX6_moves 22 = .ok (.iload_n 2, 1) := by decide +kernel
theorem dX6_moves_23 : decode cX6_moves 23 = .ok (.iload_n 1, 1) := by decide +kernel
theorem dX6_moves_24 : decode cX6_moves 24 = .ok (.if_icmp .eq 23, 3) := by decide +kernel
theorem dX6_moves_27 : decode cX6_moves 27 = .ok (.iload_n 3, 1) := by decide +kernel
theorem dX6_moves_28 : decode cX6_moves 28 = .ok (.iconst 1, 1) := by decide +kernel
theorem dX6_moves_29 : decode cX6_moves 29 = .ok (.bipush 16, 2) := by decide +kernel
theorem dX6_moves_31 : decode cX6_moves 31 = .ok (.invokestatic 34, 3) := by decide +kernel
theorem dX6_moves_34 : decode cX6_moves 34 = .ok (.ifCond .eq 13, 3) := by decide +kernel
theorem dX6_moves_37 : decode cX6_moves 37 = .ok (.iload 4, 2) := by decide +kernel
theorem dX6_moves_39 : decode cX6_moves 39 = .ok (.iconst 0, 1) := by decide +kernel
theorem dX6_moves_40 : decode cX6_moves 40 = .ok (.iconst 1, 1) := by decide +kernel
theorem dX6_moves_41 : decode cX6_moves 41 = .ok (.invokestatic 34, 3) := by decide +kernel
theorem dX6_moves_44 : decode cX6_moves 44 = .ok (.ifCond .ne 10, 3) := by decide +kernel
theorem dX6_moves_47 : decode cX6_moves 47 = .ok (.aload_n 0, 1) := by decide +kernel
theorem dX6_moves_48 : decode cX6_moves 48 = .ok (.bipush (-2), 2) := by decide +kernel
theorem dX6_moves_50 : decode cX6_moves 50 = .ok (.invokevirtual 42, 3) := by decide +kernel
theorem dX6_moves_53 : decode cX6_moves 53 = .ok (.ireturn, 1) := by decide +kernel
theorem dX6_moves_54 : decode cX6_moves 54 = .ok (.aload_n 0, 1) := by decide +kernel
theorem dX6_moves_55 : decode cX6_moves 55 = .ok (.invokevirtual 49, 3) := by decide +kernel
theorem dX6_moves_58 : decode cX6_moves 58 = .ok (.aload_n 0, 1) := by decide +kernel
theorem dX6_moves_59 : decode cX6_moves 59 = .ok (.getfield 10, 3) := by decide +kernel
theorem dX6_moves_62 : decode cX6_moves 62 = .ok (.iload_n 2, 1) := by decide +kernel
theorem dX6_moves_63 : decode cX6_moves 63 = .ok (.iload_n 1, 1) := by decide +kernel
theorem dX6_moves_64 : decode cX6_moves 64 = .ok (.invokevirtual 63, 3) := by decide +kernel
theorem dX6_moves_67 : decode cX6_moves 67 = .ok (.ifCond .eq 23, 3) := by decide +kernel
theorem dX6_moves_70 : decode cX6_moves 70 = .ok (.aload_n 0, 1) := by decide +kernel
theorem dX6_moves_71 : decode cX6_moves 71 = .ok (.getfield 10, 3) := by decide +kernel
theorem dX6_moves_74 : decode cX6_moves 74 = .ok (.iload_n 2, 1) := by decide +kernel
theorem dX6_moves_75 : decode cX6_moves 75 = .ok (.aload_n 0, 1) := by decide +kernel
theorem dX6_moves_76 : decode cX6_moves 76 = .ok (.getfield 10, 3) := by decide +kernel
theorem dX6_moves_79 : decode cX6_moves 79 = .ok (.getfield 67, 3) := by decide +kernel
theorem dX6_moves_82 : decode cX6_moves 82 = .ok (.iload_n 1, 1) := by decide +kernel
theorem dX6_moves_83 : decode cX6_moves 83 = .ok (.aaload, 1) := by decide +kernel
theorem dX6_moves_84 : decode cX6_moves 84 = .ok (.getfield 71, 3) := by decide +kernel
theorem dX6_moves_87 : decode cX6_moves 87 = .ok (.invokevirtual 77, 3) := by decide +kernel
theorem dX6_moves_90 : decode cX6_moves 90 = .ok (.aload_n 0, 1) := by decide +kernel
theorem dX6_moves_91 : decode cX6_moves 91 = .ok (.getfield 10, 3) := by decide +kernel
theorem dX6_moves_94 : decode cX6_moves 94 = .ok (.getfield 67, 3) := by decide +kernel
theorem dX6_moves_97 : decode cX6_moves 97 = .ok (.iload_n 1, 1) := by decide +kernel
theorem dX6_moves_98 : decode cX6_moves 98 = .ok (.aaload, 1) := by decide +kernel
theorem dX6_moves_99 : decode cX6_moves 99 = .ok (.iload_n 3, 1) := by decide +kernel
theorem dX6_moves_100 : decode cX6_moves 100 = .ok (.putfield 80, 3) := by decide +kernel
theorem dX6_moves_103 : decode cX6_moves 103 = .ok (.aload_n 0, 1) := by decide +kernel
theorem dX6_moves_104 : decode cX6_moves 104 = .ok (.getfield 10, 3) := by decide +kernel
theorem dX6_moves_107 : decode cX6_moves 107 = .ok (.iload_n 1, 1) := by decide +kernel
theorem dX6_moves_108 : decode cX6_moves 108 = .ok (.iload_n 2, 1) := by decide +kernel
theorem dX6_moves_109 : decode cX6_moves 109 = .ok (.iload 4, 2) := by decide +kernel
theorem dX6_moves_111 : decode cX6_moves 111 = .ok (.iconst 1, 1) := by decide +kernel
theorem dX6_moves_112 : decode cX6_moves 112 = .ok (.if_icmp .ne 7, 3) := by decide +kernel
theorem dX6_moves_115 : decode cX6_moves 115 = .ok (.iconst 1, 1) := by decide +kernel
theorem dX6_moves_116 : decode cX6_moves 116 = .ok (.goto 4, 3) := by decide +kernel
theorem dX6_moves_119 : decode cX6_moves 119 = .ok (.iconst 0, 1) := by decide +kernel
theorem dX6_moves_120 : decode cX6_moves 120 = .ok (.invokevirtual 56, 3) := by decide +kernel
theorem dX6_moves_123 : decode cX6_moves 123 = .ok (.aload_n 0, 1) := by decide +kernel
theorem dX6_moves_124 : decode cX6_moves 124 = .ok (.getfield 10, 3) := by decide +kernel
theorem dX6_moves_127 : decode cX6_moves 127 = .ok (.iload_n 1, 1) := by decide +kernel
theorem dX6_moves_128 : decode cX6_moves 128 = .ok (.invokevirtual 60, 3) := by decide +kernel
theorem dX6_moves_131 : decode cX6_moves 131 = .ok (.ireturn, 1) := by decide +kernel
theorem dX6_sets_0 : decode cX6_sets 0 = .ok (.aload_n 0, 1) := by decide +kernel
theorem dX6_sets_1 : decode cX6_sets 1 = .ok (.getfield 10, 3) := by decide +kernel
theorem dX6_sets_4 : decode cX6_sets 4 = .ok (.iload_n 1, 1) := by decide +kernel
theorem dX6_sets_5 : decode cX6_sets 5 = .ok (.invokevirtual 46, 3) := by decide +kernel
theorem dX6_sets_8 : decode cX6_sets 8 = .ok (.ifCond .eq 29, 3) := by decide +kernel
theorem dX6_sets_11 : decode cX6_sets 11 = .ok (.iload_n 2, 1) := by decide +kernel
theorem dX6_sets_12 : decode cX6_sets 12 = .ok (.iconst 0, 1) := by decide +kernel
theorem dX6_sets_13 : decode cX6_sets 13 = .ok (.iconst 2, 1) := by decide +kernel
theorem dX6_sets_14 : decode cX6_sets 14 = .ok (.invokestatic 34, 3) := by decide +kernel
theorem dX6_sets_17 : decode cX6_sets 17 = .ok (.ifCond .eq 20, 3) := by decide +kernel
theorem dX6_sets_20 : decode cX6_sets 20 = .ok (.iload_n 3, 1) := by decide +kernel
theorem dX6_sets_21 : decode cX6_sets 21 = .ok (.getstatic 83, 3) := by decide +kernel
theorem dX6_sets_24 : decode cX6_sets 24 = .ok (.iload_n 2, 1) := by decide +kernel
theorem dX6_sets_25 : decode cX6_sets 25 = .ok (.iaload, 1) := by decide +kernel
theorem dX6_sets_26 : decode cX6_sets 26 = .ok (.getstatic 87, 3) := by decide +kernel
theorem dX6_sets_29 : decode cX6_sets 29 = .ok (.iload_n 2, 1) := by decide +kernel
theorem dX6_sets_30 : decode cX6_sets 30 = .ok (.iaload, 1) := by decide +kernel
theorem dX6_sets_31 : decode cX6_sets 31 = .ok (.invokestatic 34, 3) := by decide +kernel
theorem dX6_sets_34 : decode cX6_sets 34 = .ok (.ifCond .ne 10, 3) := by decide +kernel
theorem dX6_sets_37 : decode cX6_sets 37 = .ok (.aload_n 0, 1) := by decide +kernel
theorem dX6_sets_38 : decode cX6_sets 38 = .ok (.bipush (-2), 2) := by decide +kernel
theorem dX6_sets_40 : decode cX6_sets 40 = .ok (.invokevirtual 42, 3) := by decide +kernel
theorem dX6_sets_43 : decode cX6_sets 43 = .ok (.ireturn, 1) := by decide +kernel
theorem dX6_sets_44 : decode cX6_sets 44 = .ok (.aload_n 0, 1) := by decide +kernel
theorem dX6_sets_45 : decode cX6_sets 45 = .ok (.invokevirtual 49, 3) := by decide +kernel
theorem dX6_sets_48 : decode cX6_sets 48 = .ok (.aload_n 0, 1) := by decide +kernel
theorem dX6_sets_49 : decode cX6_sets 49 = .ok (.getfield 10, 3) := by decide +kernel
theorem dX6_sets_52 : decode cX6_sets 52 = .ok (.getfield 67, 3) := by decide +kernel
theorem dX6_sets_55 : decode cX6_sets 55 = .ok (.iload_n 1, 1) := by decide +kernel
theorem dX6_sets_56 : decode cX6_sets 56 = .ok (.aaload, 1) := by decide +kernel
theorem dX6_sets_57 : decode cX6_sets 57 = .ok (.iload_n 2, 1) := by decide +kernel
theorem dX6_sets_58 : decode cX6_sets 58 = .ok (.iload_n 3, 1) := by decide +kernel
theorem dX6_sets_59 : decode cX6_sets 59 = .ok (.invokevirtual 90, 3) := by decide +kernel
theorem dX6_sets_62 : decode cX6_sets 62 = .ok (.ireturn, 1) := by decide +kernel
theorem dX6_closes_0 : decode cX6_closes 0 = .ok (.aload_n 0, 1) := by decide +kernel
theorem dX6_closes_1 : decode cX6_closes 1 = .ok (.getfield 10, 3) := by decide +kernel
theorem dX6_closes_4 : decode cX6_closes 4 = .ok (.iload_n 1, 1) := by decide +kernel
theorem dX6_closes_5 : decode cX6_closes 5 = .ok (.invokevirtual 46, 3) := by decide +kernel
theorem dX6_closes_8 : decode cX6_closes 8 = .ok (.ifCond .ne 10, 3) := by decide +kernel
theorem dX6_closes_11 : decode cX6_closes 11 = .ok (.aload_n 0, 1) := by decide +kernel
theorem dX6_closes_12 : decode cX6_closes 12 = .ok (.bipush (-2), 2) := by decide +kernel
theorem dX6_closes_14 : decode cX6_closes 14 = .ok (.invokevirtual 42, 3) := by decide +kernel
theorem dX6_closes_17 : decode cX6_closes 17 = .ok (.ireturn, 1) := by decide +kernel
theorem dX6_closes_18 : decode cX6_closes 18 = .ok (.aload_n 0, 1) := by decide +kernel
theorem dX6_closes_19 : decode cX6_closes 19 = .ok (.getfield 10, 3) := by decide +kernel
theorem dX6_closes_22 : decode cX6_closes 22 = .ok (.getfield 67, 3) := by decide +kernel
theorem dX6_closes_25 : decode cX6_closes 25 = .ok (.iload_n 1, 1) := by decide +kernel
theorem dX6_closes_26 : decode cX6_closes 26 = .ok (.aaload, 1) := by decide +kernel
theorem dX6_closes_27 : decode cX6_closes 27 = .ok (.getfield 94, 3) := by decide +kernel
theorem dX6_closes_30 : decode cX6_closes 30 = .ok (.ifCond .ne 10, 3) := by decide +kernel
theorem dX6_closes_33 : decode cX6_closes 33 = .ok (.aload_n 0, 1) := by decide +kernel
theorem dX6_closes_34 : decode cX6_closes 34 = .ok (.bipush (-3), 2) := by decide +kernel
theorem dX6_closes_36 : decode cX6_closes 36 = .ok (.invokevirtual 42, 3) := by decide +kernel
theorem dX6_closes_39 : decode cX6_closes 39 = .ok (.ireturn, 1) := by decide +kernel
theorem dX6_closes_40 : decode cX6_closes 40 = .ok (.aload_n 0, 1) := by decide +kernel
theorem dX6_closes_41 : decode cX6_closes 41 = .ok (.invokevirtual 49, 3) := by decide +kernel
theorem dX6_closes_44 : decode cX6_closes 44 = .ok (.aload_n 0, 1) := by decide +kernel
theorem dX6_closes_45 : decode cX6_closes 45 = .ok (.getfield 10, 3) := by decide +kernel
theorem dX6_closes_48 : decode cX6_closes 48 = .ok (.getfield 67, 3) := by decide +kernel
theorem dX6_closes_51 : decode cX6_closes 51 = .ok (.iload_n 1, 1) := by decide +kernel
theorem dX6_closes_52 : decode cX6_closes 52 = .ok (.aaload, 1) := by decide +kernel
theorem dX6_closes_53 : decode cX6_closes 53 = .ok (.iconst 0, 1) := by decide +kernel
theorem dX6_closes_54 : decode cX6_closes 54 = .ok (.putfield 94, 3) := by decide +kernel
theorem dX6_closes_57 : decode cX6_closes 57 = .ok (.aload_n 0, 1) := by decide +kernel
theorem dX6_closes_58 : decode cX6_closes 58 = .ok (.getfield 10, 3) := by decide +kernel
theorem dX6_closes_61 : decode cX6_closes 61 = .ok (.getfield 67, 3) := by decide +kernel
theorem dX6_closes_64 : decode cX6_closes 64 = .ok (.iload_n 1, 1) := by decide +kernel
theorem dX6_closes_65 : decode cX6_closes 65 = .ok (.aaload, 1) := by decide +kernel
theorem dX6_closes_66 : decode cX6_closes 66 = .ok (.iconst 0, 1) := by decide +kernel
theorem dX6_closes_67 : decode cX6_closes 67 = .ok (.putfield 98, 3) := by decide +kernel
theorem dX6_closes_70 : decode cX6_closes 70 = .ok (.aload_n 0, 1) := by decide +kernel
theorem dX6_closes_71 : decode cX6_closes 71 = .ok (.getfield 10, 3) := by decide +kernel
theorem dX6_closes_74 : decode cX6_closes 74 = .ok (.invokevirtual 101, 3) := by decide +kernel
theorem dX6_closes_77 : decode cX6_closes 77 = .ok (.aload_n 0, 1) := by decide +kernel
theorem dX6_closes_78 : decode cX6_closes 78 = .ok (.getfield 10, 3) := by decide +kernel
theorem dX6_closes_81 : decode cX6_closes 81 = .ok (.getfield 104, 3) := by decide +kernel
theorem dX6_closes_84 : decode cX6_closes 84 = .ok (.invokestatic 107, 3) := by decide +kernel
theorem dX6_closes_87 : decode cX6_closes 87 = .ok (.ireturn, 1) := by decide +kernel
theorem dX6_of_0 : decode cX6_of 0 = .ok (.aload_n 0, 1) := by decide +kernel
theorem dX6_of_1 : decode cX6_of 1 = .ok (.getfield 10, 3) := by decide +kernel
theorem dX6_of_4 : decode cX6_of 4 = .ok (.iload_n 1, 1) := by decide +kernel
theorem dX6_of_5 : decode cX6_of 5 = .ok (.invokevirtual 46, 3) := by decide +kernel
theorem dX6_of_8 : decode cX6_of 8 = .ok (.ifCond .eq 13, 3) := by decide +kernel
theorem dX6_of_11 : decode cX6_of 11 = .ok (.iload_n 2, 1) := by decide +kernel
theorem dX6_of_12 : decode cX6_of 12 = .ok (.iconst 0, 1) := by decide +kernel
theorem dX6_of_13 : decode cX6_of 13 = .ok (.bipush 15, 2) := by decide +kernel
theorem dX6_of_15 : decode cX6_of 15 = .ok (.invokestatic 34, 3) := by decide +kernel
theorem dX6_of_18 : decode cX6_of 18 = .ok (.ifCond .ne 10, 3) := by decide +kernel
theorem dX6_of_21 : decode cX6_of 21 = .ok (.aload_n 0, 1) := by decide +kernel
theorem dX6_of_22 : decode cX6_of 22 = .ok (.bipush (-2), 2) := by decide +kernel
theorem dX6_of_24 : decode cX6_of 24 = .ok (.invokevirtual 42, 3) := by decide +kernel
theorem dX6_of_27 : decode cX6_of 27 = .ok (.ireturn, 1) := by decide +kernel
theorem dX6_of_28 : decode cX6_of 28 = .ok (.iload_n 2, 1) := by decide +kernel
theorem dX6_of_29 : decode cX6_of 29 = .ok (.tableswitch 97 12 15 #[31, 40, 49, 70], 31) := by decide +kernel
theorem dX6_of_60 : decode cX6_of 60 = .ok (.aload_n 0, 1) := by decide +kernel
theorem dX6_of_61 : decode cX6_of 61 = .ok (.getfield 10, 3) := by decide +kernel
theorem dX6_of_64 : decode cX6_of 64 = .ok (.iload_n 1, 1) := by decide +kernel
theorem dX6_of_65 : decode cX6_of 65 = .ok (.invokevirtual 60, 3) := by decide +kernel
theorem dX6_of_68 : decode cX6_of 68 = .ok (.ireturn, 1) := by decide +kernel
theorem dX6_of_69 : decode cX6_of 69 = .ok (.aload_n 0, 1) := by decide +kernel
theorem dX6_of_70 : decode cX6_of 70 = .ok (.getfield 10, 3) := by decide +kernel
theorem dX6_of_73 : decode cX6_of 73 = .ok (.iload_n 1, 1) := by decide +kernel
theorem dX6_of_74 : decode cX6_of 74 = .ok (.invokevirtual 112, 3) := by decide +kernel
theorem dX6_of_77 : decode cX6_of 77 = .ok (.ireturn, 1) := by decide +kernel
theorem dX6_of_78 : decode cX6_of 78 = .ok (.aload_n 0, 1) := by decide +kernel
theorem dX6_of_79 : decode cX6_of 79 = .ok (.getfield 10, 3) := by decide +kernel
theorem dX6_of_82 : decode cX6_of 82 = .ok (.getfield 67, 3) := by decide +kernel
theorem dX6_of_85 : decode cX6_of 85 = .ok (.iload_n 1, 1) := by decide +kernel
theorem dX6_of_86 : decode cX6_of 86 = .ok (.aaload, 1) := by decide +kernel
theorem dX6_of_87 : decode cX6_of 87 = .ok (.invokevirtual 115, 3) := by decide +kernel
theorem dX6_of_90 : decode cX6_of 90 = .ok (.ifCond .eq 7, 3) := by decide +kernel
theorem dX6_of_93 : decode cX6_of 93 = .ok (.iconst 1, 1) := by decide +kernel
theorem dX6_of_94 : decode cX6_of 94 = .ok (.goto 4, 3) := by decide +kernel
theorem dX6_of_97 : decode cX6_of 97 = .ok (.iconst 0, 1) := by decide +kernel
theorem dX6_of_98 : decode cX6_of 98 = .ok (.ireturn, 1) := by decide +kernel
theorem dX6_of_99 : decode cX6_of 99 = .ok (.aload_n 0, 1) := by decide +kernel
theorem dX6_of_100 : decode cX6_of 100 = .ok (.getfield 10, 3) := by decide +kernel
theorem dX6_of_103 : decode cX6_of 103 = .ok (.aload_n 0, 1) := by decide +kernel
theorem dX6_of_104 : decode cX6_of 104 = .ok (.getfield 10, 3) := by decide +kernel
theorem dX6_of_107 : decode cX6_of 107 = .ok (.invokevirtual 119, 3) := by decide +kernel
theorem dX6_of_110 : decode cX6_of 110 = .ok (.invokevirtual 123, 3) := by decide +kernel
theorem dX6_of_113 : decode cX6_of 113 = .ok (.iload_n 1, 1) := by decide +kernel
theorem dX6_of_114 : decode cX6_of 114 = .ok (.invokestatic 126, 3) := by decide +kernel
theorem dX6_of_117 : decode cX6_of 117 = .ok (.ifCond .eq 7, 3) := by decide +kernel
theorem dX6_of_120 : decode cX6_of 120 = .ok (.iconst 1, 1) := by decide +kernel
theorem dX6_of_121 : decode cX6_of 121 = .ok (.goto 4, 3) := by decide +kernel
theorem dX6_of_124 : decode cX6_of 124 = .ok (.iconst 0, 1) := by decide +kernel
theorem dX6_of_125 : decode cX6_of 125 = .ok (.ireturn, 1) := by decide +kernel
theorem dX6_of_126 : decode cX6_of 126 = .ok (.aload_n 0, 1) := by decide +kernel
theorem dX6_of_127 : decode cX6_of 127 = .ok (.getfield 10, 3) := by decide +kernel
theorem dX6_of_130 : decode cX6_of 130 = .ok (.getfield 67, 3) := by decide +kernel
theorem dX6_of_133 : decode cX6_of 133 = .ok (.iload_n 1, 1) := by decide +kernel
theorem dX6_of_134 : decode cX6_of 134 = .ok (.aaload, 1) := by decide +kernel
theorem dX6_of_135 : decode cX6_of 135 = .ok (.iload_n 2, 1) := by decide +kernel
theorem dX6_of_136 : decode cX6_of 136 = .ok (.invokevirtual 129, 3) := by decide +kernel
theorem dX6_of_139 : decode cX6_of 139 = .ok (.ireturn, 1) := by decide +kernel
theorem dX6_turn_0 : decode cX6_turn 0 = .ok (.iload_n 2, 1) := by decide +kernel
theorem dX6_turn_1 : decode cX6_turn 1 = .ok (.ifCond .ne 27, 3) := by decide +kernel
theorem dX6_turn_4 : decode cX6_turn 4 = .ok (.aload_n 0, 1) := by decide +kernel
theorem dX6_turn_5 : decode cX6_turn 5 = .ok (.getfield 10, 3) := by decide +kernel
theorem dX6_turn_8 : decode cX6_turn 8 = .ok (.iload_n 1, 1) := by decide +kernel
theorem dX6_turn_9 : decode cX6_turn 9 = .ok (.invokevirtual 46, 3) := by decide +kernel
theorem dX6_turn_12 : decode cX6_turn 12 = .ok (.ifCond .eq 16, 3) := by decide +kernel
theorem dX6_turn_15 : decode cX6_turn 15 = .ok (.aload_n 0, 1) := by decide +kernel
theorem dX6_turn_16 : decode cX6_turn 16 = .ok (.getfield 10, 3) := by decide +kernel
theorem dX6_turn_19 : decode cX6_turn 19 = .ok (.getfield 67, 3) := by decide +kernel
theorem dX6_turn_22 : decode cX6_turn 22 = .ok (.iload_n 1, 1) := by decide +kernel
theorem dX6_turn_23 : decode cX6_turn 23 = .ok (.aaload, 1) := by decide +kernel
theorem dX6_turn_24 : decode cX6_turn 24 = .ok (.getfield 132, 3) := by decide +kernel
theorem dX6_turn_27 : decode cX6_turn 27 = .ok (.lreturn, 1) := by decide +kernel
theorem dX6_turn_28 : decode cX6_turn 28 = .ok (.iload_n 2, 1) := by decide +kernel
theorem dX6_turn_29 : decode cX6_turn 29 = .ok (.iconst 1, 1) := by decide +kernel
theorem dX6_turn_30 : decode cX6_turn 30 = .ok (.if_icmp .ne 27, 3) := by decide +kernel
theorem dX6_turn_33 : decode cX6_turn 33 = .ok (.aload_n 0, 1) := by decide +kernel
theorem dX6_turn_34 : decode cX6_turn 34 = .ok (.getfield 10, 3) := by decide +kernel
theorem dX6_turn_37 : decode cX6_turn 37 = .ok (.iload_n 1, 1) := by decide +kernel
theorem dX6_turn_38 : decode cX6_turn 38 = .ok (.invokevirtual 38, 3) := by decide +kernel
theorem dX6_turn_41 : decode cX6_turn 41 = .ok (.ifCond .eq 16, 3) := by decide +kernel
theorem dX6_turn_44 : decode cX6_turn 44 = .ok (.aload_n 0, 1) := by decide +kernel
theorem dX6_turn_45 : decode cX6_turn 45 = .ok (.getfield 10, 3) := by decide +kernel
theorem dX6_turn_48 : decode cX6_turn 48 = .ok (.getfield 67, 3) := by decide +kernel
theorem dX6_turn_51 : decode cX6_turn 51 = .ok (.iload_n 1, 1) := by decide +kernel
theorem dX6_turn_52 : decode cX6_turn 52 = .ok (.aaload, 1) := by decide +kernel
theorem dX6_turn_53 : decode cX6_turn 53 = .ok (.getfield 136, 3) := by decide +kernel
theorem dX6_turn_56 : decode cX6_turn 56 = .ok (.lreturn, 1) := by decide +kernel
theorem dX6_turn_57 : decode cX6_turn 57 = .ok (.aload_n 0, 1) := by decide +kernel
theorem dX6_turn_58 : decode cX6_turn 58 = .ok (.bipush (-2), 2) := by decide +kernel
theorem dX6_turn_60 : decode cX6_turn 60 = .ok (.invokevirtual 42, 3) := by decide +kernel
theorem dX6_turn_63 : decode cX6_turn 63 = .ok (.i2l, 1) := by decide +kernel
theorem dX6_turn_64 : decode cX6_turn 64 = .ok (.lreturn, 1) := by decide +kernel
theorem dX6_child_0 : decode cX6_child 0 = .ok (.aload_n 0, 1) := by decide +kernel
theorem dX6_child_1 : decode cX6_child 1 = .ok (.getfield 10, 3) := by decide +kernel
theorem dX6_child_4 : decode cX6_child 4 = .ok (.iload_n 1, 1) := by decide +kernel
theorem dX6_child_5 : decode cX6_child 5 = .ok (.invokevirtual 38, 3) := by decide +kernel
theorem dX6_child_8 : decode cX6_child 8 = .ok (.ifCond .eq 7, 3) := by decide +kernel
theorem dX6_child_11 : decode cX6_child 11 = .ok (.iload_n 2, 1) := by decide +kernel
theorem dX6_child_12 : decode cX6_child 12 = .ok (.ifCond .ge 10, 3) := by decide +kernel
theorem dX6_child_15 : decode cX6_child 15 = .ok (.aload_n 0, 1) := by decide +kernel
theorem dX6_child_16 : decode cX6_child 16 = .ok (.bipush (-2), 2) := by decide +kernel
theorem dX6_child_18 : decode cX6_child 18 = .ok (.invokevirtual 42, 3) := by decide +kernel
theorem dX6_child_21 : decode cX6_child 21 = .ok (.ireturn, 1) := by decide +kernel
theorem dX6_child_22 : decode cX6_child 22 = .ok (.aload_n 0, 1) := by decide +kernel
theorem dX6_child_23 : decode cX6_child 23 = .ok (.getfield 10, 3) := by decide +kernel
theorem dX6_child_26 : decode cX6_child 26 = .ok (.iload_n 1, 1) := by decide +kernel
theorem dX6_child_27 : decode cX6_child 27 = .ok (.iload_n 2, 1) := by decide +kernel
theorem dX6_child_28 : decode cX6_child 28 = .ok (.invokevirtual 139, 3) := by decide +kernel
theorem dX6_child_31 : decode cX6_child 31 = .ok (.ireturn, 1) := by decide +kernel
theorem dX6_common_0 : decode cX6_common 0 = .ok (.aload_n 0, 1) := by decide +kernel
theorem dX6_common_1 : decode cX6_common 1 = .ok (.getfield 10, 3) := by decide +kernel
theorem dX6_common_4 : decode cX6_common 4 = .ok (.iload_n 1, 1) := by decide +kernel
theorem dX6_common_5 : decode cX6_common 5 = .ok (.invokevirtual 46, 3) := by decide +kernel
theorem dX6_common_8 : decode cX6_common 8 = .ok (.ifCond .eq 14, 3) := by decide +kernel
theorem dX6_common_11 : decode cX6_common 11 = .ok (.aload_n 0, 1) := by decide +kernel
theorem dX6_common_12 : decode cX6_common 12 = .ok (.getfield 10, 3) := by decide +kernel
theorem dX6_common_15 : decode cX6_common 15 = .ok (.iload_n 2, 1) := by decide +kernel
theorem dX6_common_16 : decode cX6_common 16 = .ok (.invokevirtual 46, 3) := by decide +kernel
theorem dX6_common_19 : decode cX6_common 19 = .ok (.ifCond .ne 10, 3) := by decide +kernel
theorem dX6_common_22 : decode cX6_common 22 = .ok (.aload_n 0, 1) := by decide +kernel
theorem dX6_common_23 : decode cX6_common 23 = .ok (.bipush (-2), 2) := by decide +kernel
theorem dX6_common_25 : decode cX6_common 25 = .ok (.invokevirtual 42, 3) := by decide +kernel
theorem dX6_common_28 : decode cX6_common 28 = .ok (.ireturn, 1) := by decide +kernel
theorem dX6_common_29 : decode cX6_common 29 = .ok (.aload_n 0, 1) := by decide +kernel
theorem dX6_common_30 : decode cX6_common 30 = .ok (.getfield 10, 3) := by decide +kernel
theorem dX6_common_33 : decode cX6_common 33 = .ok (.iload_n 1, 1) := by decide +kernel
theorem dX6_common_34 : decode cX6_common 34 = .ok (.iload_n 2, 1) := by decide +kernel
theorem dX6_common_35 : decode cX6_common 35 = .ok (.invokevirtual 142, 3) := by decide +kernel
theorem dX6_common_38 : decode cX6_common 38 = .ok (.ireturn, 1) := by decide +kernel
theorem dX6_readies_0 : decode cX6_readies 0 = .ok (.aload_n 0, 1) := by decide +kernel
theorem dX6_readies_1 : decode cX6_readies 1 = .ok (.getfield 10, 3) := by decide +kernel
theorem dX6_readies_4 : decode cX6_readies 4 = .ok (.iload_n 1, 1) := by decide +kernel
theorem dX6_readies_5 : decode cX6_readies 5 = .ok (.invokevirtual 46, 3) := by decide +kernel
theorem dX6_readies_8 : decode cX6_readies 8 = .ok (.ifCond .eq 14, 3) := by decide +kernel
theorem dX6_readies_11 : decode cX6_readies 11 = .ok (.iload_n 2, 1) := by decide +kernel
theorem dX6_readies_12 : decode cX6_readies 12 = .ok (.iconst 1, 1) := by decide +kernel
theorem dX6_readies_13 : decode cX6_readies 13 = .ok (.sipush 9999, 3) := by decide +kernel
theorem dX6_readies_16 : decode cX6_readies 16 = .ok (.invokestatic 34, 3) := by decide +kernel
theorem dX6_readies_19 : decode cX6_readies 19 = .ok (.ifCond .ne 10, 3) := by decide +kernel
theorem dX6_readies_22 : decode cX6_readies 22 = .ok (.aload_n 0, 1) := by decide +kernel
theorem dX6_readies_23 : decode cX6_readies 23 = .ok (.bipush (-2), 2) := by decide +kernel
theorem dX6_readies_25 : decode cX6_readies 25 = .ok (.invokevirtual 42, 3) := by decide +kernel
theorem dX6_readies_28 : decode cX6_readies 28 = .ok (.ireturn, 1) := by decide +kernel
theorem dX6_readies_29 : decode cX6_readies 29 = .ok (.aload_n 0, 1) := by decide +kernel
theorem dX6_readies_30 : decode cX6_readies 30 = .ok (.getfield 10, 3) := by decide +kernel
theorem dX6_readies_33 : decode cX6_readies 33 = .ok (.getfield 67, 3) := by decide +kernel
theorem dX6_readies_36 : decode cX6_readies 36 = .ok (.iload_n 1, 1) := by decide +kernel
theorem dX6_readies_37 : decode cX6_readies 37 = .ok (.aaload, 1) := by decide +kernel
theorem dX6_readies_38 : decode cX6_readies 38 = .ok (.astore_n 3, 1) := by decide +kernel
theorem dX6_readies_39 : decode cX6_readies 39 = .ok (.aload_n 3, 1) := by decide +kernel
theorem dX6_readies_40 : decode cX6_readies 40 = .ok (.getfield 94, 3) := by decide +kernel
theorem dX6_readies_43 : decode cX6_readies 43 = .ok (.ifCond .eq 15, 3) := by decide +kernel
theorem dX6_readies_46 : decode cX6_readies 46 = .ok (.aload_n 3, 1) := by decide +kernel
theorem dX6_readies_47 : decode cX6_readies 47 = .ok (.getfield 98, 3) := by decide +kernel
theorem dX6_readies_50 : decode cX6_readies 50 = .ok (.iload_n 2, 1) := by decide +kernel
theorem dX6_readies_51 : decode cX6_readies 51 = .ok (.iadd, 1) := by decide +kernel
theorem dX6_readies_52 : decode cX6_readies 52 = .ok (.sipush 9999, 3) := by decide +kernel
theorem dX6_readies_55 : decode cX6_readies 55 = .ok (.if_icmp .le 10, 3) := by decide +kernel
theorem dX6_readies_58 : decode cX6_readies 58 = .ok (.aload_n 0, 1) := by decide +kernel
theorem dX6_readies_59 : decode cX6_readies 59 = .ok (.bipush (-3), 2) := by decide +kernel
theorem dX6_readies_61 : decode cX6_readies 61 = .ok (.invokevirtual 42, 3) := by decide +kernel
theorem dX6_readies_64 : decode cX6_readies 64 = .ok (.ireturn, 1) := by decide +kernel
theorem dX6_readies_65 : decode cX6_readies 65 = .ok (.aload_n 0, 1) := by decide +kernel
theorem dX6_readies_66 : decode cX6_readies 66 = .ok (.invokevirtual 49, 3) := by decide +kernel
theorem dX6_readies_69 : decode cX6_readies 69 = .ok (.aload_n 3, 1) := by decide +kernel
theorem dX6_readies_70 : decode cX6_readies 70 = .ok (.dup, 1) := by decide +kernel
theorem dX6_readies_71 : decode cX6_readies 71 = .ok (.getfield 98, 3) := by decide +kernel
theorem dX6_readies_74 : decode cX6_readies 74 = .ok (.iload_n 2, 1) := by decide +kernel
theorem dX6_readies_75 : decode cX6_readies 75 = .ok (.iadd, 1) := by decide +kernel
theorem dX6_readies_76 : decode cX6_readies 76 = .ok (.putfield 98, 3) := by decide +kernel
theorem dX6_readies_79 : decode cX6_readies 79 = .ok (.aload_n 3, 1) := by decide +kernel
theorem dX6_readies_80 : decode cX6_readies 80 = .ok (.getfield 98, 3) := by decide +kernel
theorem dX6_readies_83 : decode cX6_readies 83 = .ok (.ireturn, 1) := by decide +kernel
theorem dX6_window_0 : decode cX6_window 0 = .ok (.aload_n 0, 1) := by decide +kernel
theorem dX6_window_1 : decode cX6_window 1 = .ok (.getfield 10, 3) := by decide +kernel
theorem dX6_window_4 : decode cX6_window 4 = .ok (.iload_n 1, 1) := by decide +kernel
theorem dX6_window_5 : decode cX6_window 5 = .ok (.invokevirtual 46, 3) := by decide +kernel
theorem dX6_window_8 : decode cX6_window 8 = .ok (.ifCond .eq 14, 3) := by decide +kernel
theorem dX6_window_11 : decode cX6_window 11 = .ok (.iload_n 2, 1) := by decide +kernel
theorem dX6_window_12 : decode cX6_window 12 = .ok (.iconst 0, 1) := by decide +kernel
theorem dX6_window_13 : decode cX6_window 13 = .ok (.sipush 9999, 3) := by decide +kernel
theorem dX6_window_16 : decode cX6_window 16 = .ok (.invokestatic 34, 3) := by decide +kernel
theorem dX6_window_19 : decode cX6_window 19 = .ok (.ifCond .ne 10, 3) := by decide +kernel
theorem dX6_window_22 : decode cX6_window 22 = .ok (.aload_n 0, 1) := by decide +kernel
theorem dX6_window_23 : decode cX6_window 23 = .ok (.bipush (-2), 2) := by decide +kernel
theorem dX6_window_25 : decode cX6_window 25 = .ok (.invokevirtual 42, 3) := by decide +kernel
theorem dX6_window_28 : decode cX6_window 28 = .ok (.ireturn, 1) := by decide +kernel
theorem dX6_window_29 : decode cX6_window 29 = .ok (.aload_n 0, 1) := by decide +kernel
theorem dX6_window_30 : decode cX6_window 30 = .ok (.invokevirtual 49, 3) := by decide +kernel
theorem dX6_window_33 : decode cX6_window 33 = .ok (.aload_n 0, 1) := by decide +kernel
theorem dX6_window_34 : decode cX6_window 34 = .ok (.getfield 10, 3) := by decide +kernel
theorem dX6_window_37 : decode cX6_window 37 = .ok (.getfield 67, 3) := by decide +kernel
theorem dX6_window_40 : decode cX6_window 40 = .ok (.iload_n 1, 1) := by decide +kernel
theorem dX6_window_41 : decode cX6_window 41 = .ok (.aaload, 1) := by decide +kernel
theorem dX6_window_42 : decode cX6_window 42 = .ok (.getfield 145, 3) := by decide +kernel
theorem dX6_window_45 : decode cX6_window 45 = .ok (.istore_n 3, 1) := by decide +kernel
theorem dX6_window_46 : decode cX6_window 46 = .ok (.aload_n 0, 1) := by decide +kernel
theorem dX6_window_47 : decode cX6_window 47 = .ok (.getfield 10, 3) := by decide +kernel
theorem dX6_window_50 : decode cX6_window 50 = .ok (.getfield 67, 3) := by decide +kernel
theorem dX6_window_53 : decode cX6_window 53 = .ok (.iload_n 1, 1) := by decide +kernel
theorem dX6_window_54 : decode cX6_window 54 = .ok (.aaload, 1) := by decide +kernel
theorem dX6_window_55 : decode cX6_window 55 = .ok (.iload_n 2, 1) := by decide +kernel
theorem dX6_window_56 : decode cX6_window 56 = .ok (.putfield 145, 3) := by decide +kernel
theorem dX6_window_59 : decode cX6_window 59 = .ok (.iload_n 3, 1) := by decide +kernel
theorem dX6_window_60 : decode cX6_window 60 = .ok (.ireturn, 1) := by decide +kernel
theorem dX6_settings_0 : decode cX6_settings 0 = .ok (.iload_n 1, 1) := by decide +kernel
theorem dX6_settings_1 : decode cX6_settings 1 = .ok (.iconst 0, 1) := by decide +kernel
theorem dX6_settings_2 : decode cX6_settings 2 = .ok (.iconst 3, 1) := by decide +kernel
theorem dX6_settings_3 : decode cX6_settings 3 = .ok (.invokestatic 34, 3) := by decide +kernel
theorem dX6_settings_6 : decode cX6_settings 6 = .ok (.ifCond .eq 20, 3) := by decide +kernel
theorem dX6_settings_9 : decode cX6_settings 9 = .ok (.iload_n 2, 1) := by decide +kernel
theorem dX6_settings_10 : decode cX6_settings 10 = .ok (.getstatic 148, 3) := by decide +kernel
theorem dX6_settings_13 : decode cX6_settings 13 = .ok (.iload_n 1, 1) := by decide +kernel
theorem dX6_settings_14 : decode cX6_settings 14 = .ok (.iaload, 1) := by decide +kernel
theorem dX6_settings_15 : decode cX6_settings 15 = .ok (.getstatic 151, 3) := by decide +kernel
theorem dX6_settings_18 : decode cX6_settings 18 = .ok (.iload_n 1, 1) := by decide +kernel
theorem dX6_settings_19 : decode cX6_settings 19 = .ok (.iaload, 1) := by decide +kernel
theorem dX6_settings_20 : decode cX6_settings 20 = .ok (.invokestatic 34, 3) := by decide +kernel
theorem dX6_settings_23 : decode cX6_settings 23 = .ok (.ifCond .ne 10, 3) := by decide +kernel
theorem dX6_settings_26 : decode cX6_settings 26 = .ok (.aload_n 0, 1) := by decide +kernel
theorem dX6_settings_27 : decode cX6_settings 27 = .ok (.bipush (-2), 2) := by decide +kernel
theorem dX6_settings_29 : decode cX6_settings 29 = .ok (.invokevirtual 42, 3) := by decide +kernel
theorem dX6_settings_32 : decode cX6_settings 32 = .ok (.ireturn, 1) := by decide +kernel
theorem dX6_settings_33 : decode cX6_settings 33 = .ok (.aload_n 0, 1) := by decide +kernel
theorem dX6_settings_34 : decode cX6_settings 34 = .ok (.invokevirtual 49, 3) := by decide +kernel
theorem dX6_settings_37 : decode cX6_settings 37 = .ok (.aload_n 0, 1) := by decide +kernel
theorem dX6_settings_38 : decode cX6_settings 38 = .ok (.getfield 10, 3) := by decide +kernel
theorem dX6_settings_41 : decode cX6_settings 41 = .ok (.iload_n 1, 1) := by decide +kernel
theorem dX6_settings_42 : decode cX6_settings 42 = .ok (.iload_n 2, 1) := by decide +kernel
theorem dX6_settings_43 : decode cX6_settings 43 = .ok (.invokevirtual 154, 3) := by decide +kernel
theorem dX6_settings_46 : decode cX6_settings 46 = .ok (.ireturn, 1) := by decide +kernel
theorem dX6_sends_0 : decode cX6_sends 0 = .ok (.iload_n 1, 1) := by decide +kernel
theorem dX6_sends_1 : decode cX6_sends 1 = .ok (.iconst 1, 1) := by decide +kernel
theorem dX6_sends_2 : decode cX6_sends 2 = .ok (.bipush 100, 2) := by decide +kernel
theorem dX6_sends_4 : decode cX6_sends 4 = .ok (.invokestatic 34, 3) := by decide +kernel
theorem dX6_sends_7 : decode cX6_sends 7 = .ok (.ifCond .ne 10, 3) := by decide +kernel
theorem dX6_sends_10 : decode cX6_sends 10 = .ok (.aload_n 0, 1) := by decide +kernel
theorem dX6_sends_11 : decode cX6_sends 11 = .ok (.bipush (-2), 2) := by decide +kernel
theorem dX6_sends_13 : decode cX6_sends 13 = .ok (.invokevirtual 42, 3) := by decide +kernel
theorem dX6_sends_16 : decode cX6_sends 16 = .ok (.ireturn, 1) := by decide +kernel
theorem dX6_sends_17 : decode cX6_sends 17 = .ok (.aload_n 0, 1) := by decide +kernel
theorem dX6_sends_18 : decode cX6_sends 18 = .ok (.invokevirtual 49, 3) := by decide +kernel
theorem dX6_sends_21 : decode cX6_sends 21 = .ok (.iconst 0, 1) := by decide +kernel
theorem dX6_sends_22 : decode cX6_sends 22 = .ok (.istore_n 2, 1) := by decide +kernel
theorem dX6_sends_23 : decode cX6_sends 23 = .ok (.iload_n 2, 1) := by decide +kernel
theorem dX6_sends_24 : decode cX6_sends 24 = .ok (.iload_n 1, 1) := by decide +kernel
theorem dX6_sends_25 : decode cX6_sends 25 = .ok (.if_icmp .ge 19, 3) := by decide +kernel
theorem dX6_sends_28 : decode cX6_sends 28 = .ok (.aload_n 0, 1) := by decide +kernel
theorem dX6_sends_29 : decode cX6_sends 29 = .ok (.getfield 10, 3) := by decide +kernel
theorem dX6_sends_32 : decode cX6_sends 32 = .ok (.invokestatic 157, 3) := by decide +kernel
theorem dX6_sends_35 : decode cX6_sends 35 = .ok (.ifCond .eq 9, 3) := by decide +kernel
theorem dX6_sends_38 : decode cX6_sends 38 = .ok (.iinc 2 1, 3) := by decide +kernel
theorem dX6_sends_41 : decode cX6_sends 41 = .ok (.goto (-18), 3) := by decide +kernel
theorem dX6_sends_44 : decode cX6_sends 44 = .ok (.iload_n 2, 1) := by decide +kernel
theorem dX6_sends_45 : decode cX6_sends 45 = .ok (.ireturn, 1) := by decide +kernel
theorem dX6_next_0 : decode cX6_next 0 = .ok (.aload_n 0, 1) := by decide +kernel
theorem dX6_next_1 : decode cX6_next 1 = .ok (.getfield 10, 3) := by decide +kernel
theorem dX6_next_4 : decode cX6_next 4 = .ok (.invokevirtual 119, 3) := by decide +kernel
theorem dX6_next_7 : decode cX6_next 7 = .ok (.istore_n 1, 1) := by decide +kernel
theorem dX6_next_8 : decode cX6_next 8 = .ok (.aload_n 0, 1) := by decide +kernel
theorem dX6_next_9 : decode cX6_next 9 = .ok (.getfield 10, 3) := by decide +kernel
theorem dX6_next_12 : decode cX6_next 12 = .ok (.iload_n 1, 1) := by decide +kernel
theorem dX6_next_13 : decode cX6_next 13 = .ok (.aload_n 0, 1) := by decide +kernel
theorem dX6_next_14 : decode cX6_next 14 = .ok (.getfield 10, 3) := by decide +kernel
theorem dX6_next_17 : decode cX6_next 17 = .ok (.iload_n 1, 1) := by decide +kernel
theorem dX6_next_18 : decode cX6_next 18 = .ok (.invokevirtual 123, 3) := by decide +kernel
theorem dX6_next_21 : decode cX6_next 21 = .ok (.invokestatic 163, 3) := by decide +kernel
theorem dX6_next_24 : decode cX6_next 24 = .ok (.ireturn, 1) := by decide +kernel
theorem dX6_share_0 : decode cX6_share 0 = .ok (.aload_n 0, 1) := by decide +kernel
theorem dX6_share_1 : decode cX6_share 1 = .ok (.getfield 10, 3) := by decide +kernel
theorem dX6_share_4 : decode cX6_share 4 = .ok (.iload_n 1, 1) := by decide +kernel
theorem dX6_share_5 : decode cX6_share 5 = .ok (.invokevirtual 46, 3) := by decide +kernel
theorem dX6_share_8 : decode cX6_share 8 = .ok (.ifCond .eq 12, 3) := by decide +kernel
theorem dX6_share_11 : decode cX6_share 11 = .ok (.iload_n 2, 1) := by decide +kernel
theorem dX6_share_12 : decode cX6_share 12 = .ok (.iconst 0, 1) := by decide +kernel
theorem dX6_share_13 : decode cX6_share 13 = .ok (.iconst 1, 1) := by decide +kernel
theorem dX6_share_14 : decode cX6_share 14 = .ok (.invokestatic 34, 3) := by decide +kernel
theorem dX6_share_17 : decode cX6_share 17 = .ok (.ifCond .ne 11, 3) := by decide +kernel
theorem dX6_share_20 : decode cX6_share 20 = .ok (.aload_n 0, 1) := by decide +kernel
theorem dX6_share_21 : decode cX6_share 21 = .ok (.bipush (-2), 2) := by decide +kernel
theorem dX6_share_23 : decode cX6_share 23 = .ok (.invokevirtual 42, 3) := by decide +kernel
theorem dX6_share_26 : decode cX6_share 26 = .ok (.i2l, 1) := by decide +kernel
theorem dX6_share_27 : decode cX6_share 27 = .ok (.lreturn, 1) := by decide +kernel
theorem dX6_share_28 : decode cX6_share 28 = .ok (.aload_n 0, 1) := by decide +kernel
theorem dX6_share_29 : decode cX6_share 29 = .ok (.getfield 10, 3) := by decide +kernel
theorem dX6_share_32 : decode cX6_share 32 = .ok (.iload_n 1, 1) := by decide +kernel
theorem dX6_share_33 : decode cX6_share 33 = .ok (.iload_n 2, 1) := by decide +kernel
theorem dX6_share_34 : decode cX6_share 34 = .ok (.ifCond .ne 7, 3) := by decide +kernel
theorem dX6_share_37 : decode cX6_share 37 = .ok (.iconst 1, 1) := by decide +kernel
theorem dX6_share_38 : decode cX6_share 38 = .ok (.goto 4, 3) := by decide +kernel
theorem dX6_share_41 : decode cX6_share 41 = .ok (.iconst 0, 1) := by decide +kernel
theorem dX6_share_42 : decode cX6_share 42 = .ok (.invokestatic 167, 3) := by decide +kernel
theorem dX6_share_45 : decode cX6_share 45 = .ok (.lreturn, 1) := by decide +kernel
theorem dX6_all_0 : decode cX6_all 0 = .ok (.iload_n 1, 1) := by decide +kernel
theorem dX6_all_1 : decode cX6_all 1 = .ok (.tableswitch 106 0 6 #[43, 51, 59, 74, 82, 90, 98], 43) := by decide +kernel
theorem dX6_all_44 : decode cX6_all 44 = .ok (.aload_n 0, 1) := by decide +kernel
theorem dX6_all_45 : decode cX6_all 45 = .ok (.getfield 10, 3) := by decide +kernel
theorem dX6_all_48 : decode cX6_all 48 = .ok (.getfield 104, 3) := by decide +kernel
theorem dX6_all_51 : decode cX6_all 51 = .ok (.ireturn, 1) := by decide +kernel
theorem dX6_all_52 : decode cX6_all 52 = .ok (.aload_n 0, 1) := by decide +kernel
theorem dX6_all_53 : decode cX6_all 53 = .ok (.getfield 10, 3) := by decide +kernel
theorem dX6_all_56 : decode cX6_all 56 = .ok (.invokevirtual 119, 3) := by decide +kernel
theorem dX6_all_59 : decode cX6_all 59 = .ok (.ireturn, 1) := by decide +kernel
theorem dX6_all_60 : decode cX6_all 60 = .ok (.aload_n 0, 1) := by decide +kernel
theorem dX6_all_61 : decode cX6_all 61 = .ok (.getfield 10, 3) := by decide +kernel
theorem dX6_all_64 : decode cX6_all 64 = .ok (.aload_n 0, 1) := by decide +kernel
theorem dX6_all_65 : decode cX6_all 65 = .ok (.getfield 10, 3) := by decide +kernel
theorem dX6_all_68 : decode cX6_all 68 = .ok (.invokevirtual 119, 3) := by decide +kernel
theorem dX6_all_71 : decode cX6_all 71 = .ok (.invokevirtual 123, 3) := by decide +kernel
theorem dX6_all_74 : decode cX6_all 74 = .ok (.ireturn, 1) := by decide +kernel
theorem dX6_all_75 : decode cX6_all 75 = .ok (.aload_n 0, 1) := by decide +kernel
theorem dX6_all_76 : decode cX6_all 76 = .ok (.getfield 10, 3) := by decide +kernel
theorem dX6_all_79 : decode cX6_all 79 = .ok (.invokevirtual 173, 3) := by decide +kernel
theorem dX6_all_82 : decode cX6_all 82 = .ok (.ireturn, 1) := by decide +kernel
theorem dX6_all_83 : decode cX6_all 83 = .ok (.aload_n 0, 1) := by decide +kernel
theorem dX6_all_84 : decode cX6_all 84 = .ok (.getfield 10, 3) := by decide +kernel
theorem dX6_all_87 : decode cX6_all 87 = .ok (.invokevirtual 176, 3) := by decide +kernel
theorem dX6_all_90 : decode cX6_all 90 = .ok (.ireturn, 1) := by decide +kernel
theorem dX6_all_91 : decode cX6_all 91 = .ok (.aload_n 0, 1) := by decide +kernel
theorem dX6_all_92 : decode cX6_all 92 = .ok (.getfield 10, 3) := by decide +kernel
theorem dX6_all_95 : decode cX6_all 95 = .ok (.getfield 179, 3) := by decide +kernel
theorem dX6_all_98 : decode cX6_all 98 = .ok (.ireturn, 1) := by decide +kernel
theorem dX6_all_99 : decode cX6_all 99 = .ok (.aload_n 0, 1) := by decide +kernel
theorem dX6_all_100 : decode cX6_all 100 = .ok (.getfield 10, 3) := by decide +kernel
theorem dX6_all_103 : decode cX6_all 103 = .ok (.getfield 182, 3) := by decide +kernel
theorem dX6_all_106 : decode cX6_all 106 = .ok (.ireturn, 1) := by decide +kernel
theorem dX6_all_107 : decode cX6_all 107 = .ok (.aload_n 0, 1) := by decide +kernel
theorem dX6_all_108 : decode cX6_all 108 = .ok (.bipush (-2), 2) := by decide +kernel
theorem dX6_all_110 : decode cX6_all 110 = .ok (.invokevirtual 42, 3) := by decide +kernel
theorem dX6_all_113 : decode cX6_all 113 = .ok (.ireturn, 1) := by decide +kernel
theorem dX6_type_0 : decode cX6_type 0 = .ok (.iload_n 1, 1) := by decide +kernel
theorem dX6_type_1 : decode cX6_type 1 = .ok (.iconst 0, 1) := by decide +kernel
theorem dX6_type_2 : decode cX6_type 2 = .ok (.bipush 127, 2) := by decide +kernel
theorem dX6_type_4 : decode cX6_type 4 = .ok (.invokestatic 34, 3) := by decide +kernel
theorem dX6_type_7 : decode cX6_type 7 = .ok (.ifCond .ne 10, 3) := by decide +kernel
theorem dX6_type_10 : decode cX6_type 10 = .ok (.aload_n 0, 1) := by decide +kernel
theorem dX6_type_11 : decode cX6_type 11 = .ok (.bipush (-2), 2) := by decide +kernel
theorem dX6_type_13 : decode cX6_type 13 = .ok (.invokevirtual 42, 3) := by decide +kernel
theorem dX6_type_16 : decode cX6_type 16 = .ok (.ireturn, 1) := by decide +kernel
theorem dX6_type_17 : decode cX6_type 17 = .ok (.aload_n 0, 1) := by decide +kernel
theorem dX6_type_18 : decode cX6_type 18 = .ok (.getfield 23, 3) := by decide +kernel
theorem dX6_type_21 : decode cX6_type 21 = .ok (.getfield 185, 3) := by decide +kernel
theorem dX6_type_24 : decode cX6_type 24 = .ok (.bipush 120, 2) := by decide +kernel
theorem dX6_type_26 : decode cX6_type 26 = .ok (.if_icmp .lt 10, 3) := by decide +kernel
theorem dX6_type_29 : decode cX6_type 29 = .ok (.aload_n 0, 1) := by decide +kernel
theorem dX6_type_30 : decode cX6_type 30 = .ok (.bipush (-4), 2) := by decide +kernel
theorem dX6_type_32 : decode cX6_type 32 = .ok (.invokevirtual 42, 3) := by decide +kernel
theorem dX6_type_35 : decode cX6_type 35 = .ok (.ireturn, 1) := by decide +kernel
theorem dX6_type_36 : decode cX6_type 36 = .ok (.aload_n 0, 1) := by decide +kernel
theorem dX6_type_37 : decode cX6_type 37 = .ok (.getfield 23, 3) := by decide +kernel
theorem dX6_type_40 : decode cX6_type 40 = .ok (.iload_n 1, 1) := by decide +kernel
theorem dX6_type_41 : decode cX6_type 41 = .ok (.invokevirtual 188, 3) := by decide +kernel
theorem dX6_type_44 : decode cX6_type 44 = .ok (.aload_n 0, 1) := by decide +kernel
theorem dX6_type_45 : decode cX6_type 45 = .ok (.getfield 23, 3) := by decide +kernel
theorem dX6_type_48 : decode cX6_type 48 = .ok (.getfield 185, 3) := by decide +kernel
theorem dX6_type_51 : decode cX6_type 51 = .ok (.ireturn, 1) := by decide +kernel
theorem dX6_clear_0 : decode cX6_clear 0 = .ok (.aload_n 0, 1) := by decide +kernel
theorem dX6_clear_1 : decode cX6_clear 1 = .ok (.getfield 23, 3) := by decide +kernel
theorem dX6_clear_4 : decode cX6_clear 4 = .ok (.getfield 185, 3) := by decide +kernel
theorem dX6_clear_7 : decode cX6_clear 7 = .ok (.istore_n 1, 1) := by decide +kernel
theorem dX6_clear_8 : decode cX6_clear 8 = .ok (.aload_n 0, 1) := by decide +kernel
theorem dX6_clear_9 : decode cX6_clear 9 = .ok (.getfield 23, 3) := by decide +kernel
theorem dX6_clear_12 : decode cX6_clear 12 = .ok (.iconst 0, 1) := by decide +kernel
theorem dX6_clear_13 : decode cX6_clear 13 = .ok (.putfield 185, 3) := by decide +kernel
theorem dX6_clear_16 : decode cX6_clear 16 = .ok (.iload_n 1, 1) := by decide +kernel
theorem dX6_clear_17 : decode cX6_clear 17 = .ok (.ireturn, 1) := by decide +kernel
theorem dX6_builds_0 : decode cX6_builds 0 = .ok (.aload_n 0, 1) := by decide +kernel
theorem dX6_builds_1 : decode cX6_builds 1 = .ok (.getfield 23, 3) := by decide +kernel
theorem dX6_builds_4 : decode cX6_builds 4 = .ok (.invokevirtual 192, 3) := by decide +kernel
theorem dX6_builds_7 : decode cX6_builds 7 = .ok (.istore_n 1, 1) := by decide +kernel
theorem dX6_builds_8 : decode cX6_builds 8 = .ok (.iload_n 1, 1) := by decide +kernel
theorem dX6_builds_9 : decode cX6_builds 9 = .ok (.iconst (-1), 1) := by decide +kernel
theorem dX6_builds_10 : decode cX6_builds 10 = .ok (.if_icmp .eq 8, 3) := by decide +kernel
theorem dX6_builds_13 : decode cX6_builds 13 = .ok (.bipush (-10), 2) := by decide +kernel
theorem dX6_builds_15 : decode cX6_builds 15 = .ok (.iload_n 1, 1) := by decide +kernel
theorem dX6_builds_16 : decode cX6_builds 16 = .ok (.isub, 1) := by decide +kernel
theorem dX6_builds_17 : decode cX6_builds 17 = .ok (.ireturn, 1) := by decide +kernel
theorem dX6_builds_18 : decode cX6_builds 18 = .ok (.aload_n 0, 1) := by decide +kernel
theorem dX6_builds_19 : decode cX6_builds 19 = .ok (.invokevirtual 49, 3) := by decide +kernel
theorem dX6_builds_22 : decode cX6_builds 22 = .ok (.aload_n 0, 1) := by decide +kernel
theorem dX6_builds_23 : decode cX6_builds 23 = .ok (.getfield 10, 3) := by decide +kernel
theorem dX6_builds_26 : decode cX6_builds 26 = .ok (.invokevirtual 195, 3) := by decide +kernel
theorem dX6_builds_29 : decode cX6_builds 29 = .ok (.iconst 0, 1) := by decide +kernel
theorem dX6_builds_30 : decode cX6_builds 30 = .ok (.istore_n 2, 1) := by decide +kernel
theorem dX6_builds_31 : decode cX6_builds 31 = .ok (.iload_n 2, 1) := by decide +kernel
theorem dX6_builds_32 : decode cX6_builds 32 = .ok (.aload_n 0, 1) := by decide +kernel
theorem dX6_builds_33 : decode cX6_builds 33 = .ok (.getfield 23, 3) := by decide +kernel
theorem dX6_builds_36 : decode cX6_builds 36 = .ok (.getfield 198, 3) := by decide +kernel
theorem dX6_builds_39 : decode cX6_builds 39 = .ok (.if_icmp .ge 59, 3) := by decide +kernel
theorem dX6_builds_42 : decode cX6_builds 42 = .ok (.aload_n 0, 1) := by decide +kernel
theorem dX6_builds_43 : decode cX6_builds 43 = .ok (.getfield 10, 3) := by decide +kernel
theorem dX6_builds_46 : decode cX6_builds 46 = .ok (.aload_n 0, 1) := by decide +kernel
theorem dX6_builds_47 : decode cX6_builds 47 = .ok (.getfield 23, 3) := by decide +kernel
theorem dX6_builds_50 : decode cX6_builds 50 = .ok (.getfield 201, 3) := by decide +kernel
theorem dX6_builds_53 : decode cX6_builds 53 = .ok (.iload_n 2, 1) := by decide +kernel
theorem dX6_builds_54 : decode cX6_builds 54 = .ok (.iaload, 1) := by decide +kernel
theorem dX6_builds_55 : decode cX6_builds 55 = .ok (.aload_n 0, 1) := by decide +kernel
theorem dX6_builds_56 : decode cX6_builds 56 = .ok (.getfield 23, 3) := by decide +kernel
theorem dX6_builds_59 : decode cX6_builds 59 = .ok (.getfield 204, 3) := by decide +kernel
theorem dX6_builds_62 : decode cX6_builds 62 = .ok (.iload_n 2, 1) := by decide +kernel
theorem dX6_builds_63 : decode cX6_builds 63 = .ok (.iaload, 1) := by decide +kernel
theorem dX6_builds_64 : decode cX6_builds 64 = .ok (.invokevirtual 52, 3) := by decide +kernel
theorem dX6_builds_67 : decode cX6_builds 67 = .ok (.aload_n 0, 1) := by decide +kernel
theorem dX6_builds_68 : decode cX6_builds 68 = .ok (.getfield 10, 3) := by decide +kernel
theorem dX6_builds_71 : decode cX6_builds 71 = .ok (.aload_n 0, 1) := by decide +kernel
theorem dX6_builds_72 : decode cX6_builds 72 = .ok (.getfield 23, 3) := by decide +kernel
theorem dX6_builds_75 : decode cX6_builds 75 = .ok (.getfield 201, 3) := by decide +kernel
theorem dX6_builds_78 : decode cX6_builds 78 = .ok (.iload_n 2, 1) := by decide +kernel
theorem dX6_builds_79 : decode cX6_builds 79 = .ok (.iaload, 1) := by decide +kernel
theorem dX6_builds_80 : decode cX6_builds 80 = .ok (.aload_n 0, 1) := by decide +kernel
theorem dX6_builds_81 : decode cX6_builds 81 = .ok (.getfield 23, 3) := by decide +kernel
theorem dX6_builds_84 : decode cX6_builds 84 = .ok (.getfield 207, 3) := by decide +kernel
theorem dX6_builds_87 : decode cX6_builds 87 = .ok (.iload_n 2, 1) := by decide +kernel
theorem dX6_builds_88 : decode cX6_builds 88 = .ok (.iaload, 1) := by decide +kernel
theorem dX6_builds_89 : decode cX6_builds 89 = .ok (.invokevirtual 77, 3) := by decide +kernel
theorem dX6_builds_92 : decode cX6_builds 92 = .ok (.iinc 2 1, 3) := by decide +kernel
theorem dX6_builds_95 : decode cX6_builds 95 = .ok (.goto (-64), 3) := by decide +kernel
theorem dX6_builds_98 : decode cX6_builds 98 = .ok (.aload_n 0, 1) := by decide +kernel
theorem dX6_builds_99 : decode cX6_builds 99 = .ok (.getfield 23, 3) := by decide +kernel
theorem dX6_builds_102 : decode cX6_builds 102 = .ok (.getfield 198, 3) := by decide +kernel
theorem dX6_builds_105 : decode cX6_builds 105 = .ok (.ireturn, 1) := by decide +kernel
theorem dX6_shown_0 : decode cX6_shown 0 = .ok (.iload_n 1, 1) := by decide +kernel
theorem dX6_shown_1 : decode cX6_shown 1 = .ok (.ifCond .ge 10, 3) := by decide +kernel
theorem dX6_shown_4 : decode cX6_shown 4 = .ok (.aload_n 0, 1) := by decide +kernel
theorem dX6_shown_5 : decode cX6_shown 5 = .ok (.bipush (-2), 2) := by decide +kernel
theorem dX6_shown_7 : decode cX6_shown 7 = .ok (.invokevirtual 42, 3) := by decide +kernel
theorem dX6_shown_10 : decode cX6_shown 10 = .ok (.ireturn, 1) := by decide +kernel
theorem dX6_shown_11 : decode cX6_shown 11 = .ok (.aload_n 0, 1) := by decide +kernel
theorem dX6_shown_12 : decode cX6_shown 12 = .ok (.getfield 30, 3) := by decide +kernel
theorem dX6_shown_15 : decode cX6_shown 15 = .ok (.aload_n 0, 1) := by decide +kernel
theorem dX6_shown_16 : decode cX6_shown 16 = .ok (.getfield 10, 3) := by decide +kernel
theorem dX6_shown_19 : decode cX6_shown 19 = .ok (.invokevirtual 210, 3) := by decide +kernel
theorem dX6_shown_22 : decode cX6_shown 22 = .ok (.iload_n 1, 1) := by decide +kernel
theorem dX6_shown_23 : decode cX6_shown 23 = .ok (.aload_n 0, 1) := by decide +kernel
theorem dX6_shown_24 : decode cX6_shown 24 = .ok (.getfield 30, 3) := by decide +kernel
theorem dX6_shown_27 : decode cX6_shown 27 = .ok (.getfield 214, 3) := by decide +kernel
theorem dX6_shown_30 : decode cX6_shown 30 = .ok (.if_icmp .ge 15, 3) := by decide +kernel
theorem dX6_shown_33 : decode cX6_shown 33 = .ok (.aload_n 0, 1) := by decide +kernel
theorem dX6_shown_34 : decode cX6_shown 34 = .ok (.getfield 30, 3) := by decide +kernel
theorem dX6_shown_37 : decode cX6_shown 37 = .ok (.getfield 215, 3) := by decide +kernel
theorem dX6_shown_40 : decode cX6_shown 40 = .ok (.iload_n 1, 1) := by decide +kernel
theorem dX6_shown_41 : decode cX6_shown 41 = .ok (.iaload, 1) := by decide +kernel
theorem dX6_shown_42 : decode cX6_shown 42 = .ok (.goto 4, 3) := by decide +kernel
theorem dX6_shown_45 : decode cX6_shown 45 = .ok (.iconst (-1), 1) := by decide +kernel
theorem dX6_shown_46 : decode cX6_shown 46 = .ok (.ireturn, 1) := by decide +kernel
theorem dX6_back_0 : decode cX6_back 0 = .ok (.aload_n 0, 1) := by decide +kernel
theorem dX6_back_1 : decode cX6_back 1 = .ok (.getfield 218, 3) := by decide +kernel
theorem dX6_back_4 : decode cX6_back 4 = .ok (.ifCond .ne 10, 3) := by decide +kernel
theorem dX6_back_7 : decode cX6_back 7 = .ok (.aload_n 0, 1) := by decide +kernel
theorem dX6_back_8 : decode cX6_back 8 = .ok (.bipush (-3), 2) := by decide +kernel
theorem dX6_back_10 : decode cX6_back 10 = .ok (.invokevirtual 42, 3) := by decide +kernel
theorem dX6_back_13 : decode cX6_back 13 = .ok (.ireturn, 1) := by decide +kernel
theorem dX6_back_14 : decode cX6_back 14 = .ok (.aload_n 0, 1) := by decide +kernel
theorem dX6_back_15 : decode cX6_back 15 = .ok (.dup, 1) := by decide +kernel
theorem dX6_back_16 : decode cX6_back 16 = .ok (.getfield 218, 3) := by decide +kernel
theorem dX6_back_19 : decode cX6_back 19 = .ok (.iconst 1, 1) := by decide +kernel
theorem dX6_back_20 : decode cX6_back 20 = .ok (.isub, 1) := by decide +kernel
theorem dX6_back_21 : decode cX6_back 21 = .ok (.putfield 218, 3) := by decide +kernel
theorem dX6_back_24 : decode cX6_back 24 = .ok (.aload_n 0, 1) := by decide +kernel
theorem dX6_back_25 : decode cX6_back 25 = .ok (.getfield 10, 3) := by decide +kernel
theorem dX6_back_28 : decode cX6_back 28 = .ok (.aload_n 0, 1) := by decide +kernel
theorem dX6_back_29 : decode cX6_back 29 = .ok (.getfield 16, 3) := by decide +kernel
theorem dX6_back_32 : decode cX6_back 32 = .ok (.aload_n 0, 1) := by decide +kernel
theorem dX6_back_33 : decode cX6_back 33 = .ok (.getfield 221, 3) := by decide +kernel
theorem dX6_back_36 : decode cX6_back 36 = .ok (.aload_n 0, 1) := by decide +kernel
theorem dX6_back_37 : decode cX6_back 37 = .ok (.getfield 218, 3) := by decide +kernel
theorem dX6_back_40 : decode cX6_back 40 = .ok (.iadd, 1) := by decide +kernel
theorem dX6_back_41 : decode cX6_back 41 = .ok (.iconst 5, 1) := by decide +kernel
theorem dX6_back_42 : decode cX6_back 42 = .ok (.irem, 1) := by decide +kernel
theorem dX6_back_43 : decode cX6_back 43 = .ok (.aaload, 1) := by decide +kernel
theorem dX6_back_44 : decode cX6_back 44 = .ok (.invokevirtual 224, 3) := by decide +kernel
theorem dX6_back_47 : decode cX6_back 47 = .ok (.aload_n 0, 1) := by decide +kernel
theorem dX6_back_48 : decode cX6_back 48 = .ok (.getfield 218, 3) := by decide +kernel
theorem dX6_back_51 : decode cX6_back 51 = .ok (.ireturn, 1) := by decide +kernel
theorem dX6_told_0 : decode cX6_told 0 = .ok (.iload_n 1, 1) := by decide +kernel
theorem dX6_told_1 : decode cX6_told 1 = .ok (.tableswitch 123 0 9 #[55, 60, 65, 70, 78, 86, 94, 102, 110, 118], 55) := by decide +kernel
theorem dX6_told_56 : decode cX6_told 56 = .ok (.aload_n 0, 1) := by decide +kernel
theorem dX6_told_57 : decode cX6_told 57 = .ok (.getfield 227, 3) := by decide +kernel
theorem dX6_told_60 : decode cX6_told 60 = .ok (.ireturn, 1) := by decide +kernel
theorem dX6_told_61 : decode cX6_told 61 = .ok (.aload_n 0, 1) := by decide +kernel
theorem dX6_told_62 : decode cX6_told 62 = .ok (.getfield 230, 3) := by decide +kernel
theorem dX6_told_65 : decode cX6_told 65 = .ok (.ireturn, 1) := by decide +kernel
theorem dX6_told_66 : decode cX6_told 66 = .ok (.aload_n 0, 1) := by decide +kernel
theorem dX6_told_67 : decode cX6_told 67 = .ok (.getfield 233, 3) := by decide +kernel
theorem dX6_told_70 : decode cX6_told 70 = .ok (.ireturn, 1) := by decide +kernel
theorem dX6_told_71 : decode cX6_told 71 = .ok (.aload_n 0, 1) := by decide +kernel
theorem dX6_told_72 : decode cX6_told 72 = .ok (.getfield 23, 3) := by decide +kernel
theorem dX6_told_75 : decode cX6_told 75 = .ok (.getfield 185, 3) := by decide +kernel
theorem dX6_told_78 : decode cX6_told 78 = .ok (.ireturn, 1) := by decide +kernel
theorem dX6_told_79 : decode cX6_told 79 = .ok (.aload_n 0, 1) := by decide +kernel
theorem dX6_told_80 : decode cX6_told 80 = .ok (.getfield 10, 3) := by decide +kernel
theorem dX6_told_83 : decode cX6_told 83 = .ok (.getfield 236, 3) := by decide +kernel
theorem dX6_told_86 : decode cX6_told 86 = .ok (.ireturn, 1) := by decide +kernel
theorem dX6_told_87 : decode cX6_told 87 = .ok (.aload_n 0, 1) := by decide +kernel
theorem dX6_told_88 : decode cX6_told 88 = .ok (.getfield 10, 3) := by decide +kernel
theorem dX6_told_91 : decode cX6_told 91 = .ok (.getfield 239, 3) := by decide +kernel
theorem dX6_told_94 : decode cX6_told 94 = .ok (.ireturn, 1) := by decide +kernel
theorem dX6_told_95 : decode cX6_told 95 = .ok (.aload_n 0, 1) := by decide +kernel
theorem dX6_told_96 : decode cX6_told 96 = .ok (.getfield 10, 3) := by decide +kernel
theorem dX6_told_99 : decode cX6_told 99 = .ok (.getfield 242, 3) := by decide +kernel
theorem dX6_told_102 : decode cX6_told 102 = .ok (.ireturn, 1) := by decide +kernel
theorem dX6_told_103 : decode cX6_told 103 = .ok (.aload_n 0, 1) := by decide +kernel
theorem dX6_told_104 : decode cX6_told 104 = .ok (.getfield 10, 3) := by decide +kernel
theorem dX6_told_107 : decode cX6_told 107 = .ok (.getfield 245, 3) := by decide +kernel
theorem dX6_told_110 : decode cX6_told 110 = .ok (.ireturn, 1) := by decide +kernel
theorem dX6_told_111 : decode cX6_told 111 = .ok (.aload_n 0, 1) := by decide +kernel
theorem dX6_told_112 : decode cX6_told 112 = .ok (.getfield 10, 3) := by decide +kernel
theorem dX6_told_115 : decode cX6_told 115 = .ok (.getfield 248, 3) := by decide +kernel
theorem dX6_told_118 : decode cX6_told 118 = .ok (.ireturn, 1) := by decide +kernel
theorem dX6_told_119 : decode cX6_told 119 = .ok (.aload_n 0, 1) := by decide +kernel
theorem dX6_told_120 : decode cX6_told 120 = .ok (.getfield 218, 3) := by decide +kernel
theorem dX6_told_123 : decode cX6_told 123 = .ok (.ireturn, 1) := by decide +kernel
theorem dX6_told_124 : decode cX6_told 124 = .ok (.aload_n 0, 1) := by decide +kernel
theorem dX6_told_125 : decode cX6_told 125 = .ok (.bipush (-2), 2) := by decide +kernel
theorem dX6_told_127 : decode cX6_told 127 = .ok (.invokevirtual 42, 3) := by decide +kernel
theorem dX6_told_130 : decode cX6_told 130 = .ok (.ireturn, 1) := by decide +kernel
theorem dX6_digest_0 : decode cX6_digest 0 = .ok (.ldc2_w 251, 3) := by decide +kernel
theorem dX6_digest_3 : decode cX6_digest 3 = .ok (.lstore_n 1, 1) := by decide +kernel
theorem dX6_digest_4 : decode cX6_digest 4 = .ok (.iconst 0, 1) := by decide +kernel
theorem dX6_digest_5 : decode cX6_digest 5 = .ok (.istore_n 3, 1) := by decide +kernel
theorem dX6_digest_6 : decode cX6_digest 6 = .ok (.iload_n 3, 1) := by decide +kernel
theorem dX6_digest_7 : decode cX6_digest 7 = .ok (.bipush 9, 2) := by decide +kernel
theorem dX6_digest_9 : decode cX6_digest 9 = .ok (.if_icmp .gt 22, 3) := by decide +kernel
theorem dX6_digest_12 : decode cX6_digest 12 = .ok (.ldc2_w 253, 3) := by decide +kernel
theorem dX6_digest_15 : decode cX6_digest 15 = .ok (.lload_n 1, 1) := by decide +kernel
theorem dX6_digest_16 : decode cX6_digest 16 = .ok (.lmul, 1) := by decide +kernel
theorem dX6_digest_17 : decode cX6_digest 17 = .ok (.aload_n 0, 1) := by decide +kernel
theorem dX6_digest_18 : decode cX6_digest 18 = .ok (.iload_n 3, 1) := by decide +kernel
theorem dX6_digest_19 : decode cX6_digest 19 = .ok (.invokevirtual 255, 3) := by decide +kernel
theorem dX6_digest_22 : decode cX6_digest 22 = .ok (.i2l, 1) := by decide +kernel
theorem dX6_digest_23 : decode cX6_digest 23 = .ok (.ladd, 1) := by decide +kernel
theorem dX6_digest_24 : decode cX6_digest 24 = .ok (.lstore_n 1, 1) := by decide +kernel
theorem dX6_digest_25 : decode cX6_digest 25 = .ok (.iinc 3 1, 3) := by decide +kernel
theorem dX6_digest_28 : decode cX6_digest 28 = .ok (.goto (-22), 3) := by decide +kernel
theorem dX6_digest_31 : decode cX6_digest 31 = .ok (.iconst 0, 1) := by decide +kernel
theorem dX6_digest_32 : decode cX6_digest 32 = .ok (.istore_n 3, 1) := by decide +kernel
theorem dX6_digest_33 : decode cX6_digest 33 = .ok (.iload_n 3, 1) := by decide +kernel
theorem dX6_digest_34 : decode cX6_digest 34 = .ok (.bipush 6, 2) := by decide +kernel
theorem dX6_digest_36 : decode cX6_digest 36 = .ok (.if_icmp .gt 22, 3) := by decide +kernel
theorem dX6_digest_39 : decode cX6_digest 39 = .ok (.ldc2_w 253, 3) := by decide +kernel
theorem dX6_digest_42 : decode cX6_digest 42 = .ok (.lload_n 1, 1) := by decide +kernel
theorem dX6_digest_43 : decode cX6_digest 43 = .ok (.lmul, 1) := by decide +kernel
theorem dX6_digest_44 : decode cX6_digest 44 = .ok (.aload_n 0, 1) := by decide +kernel
theorem dX6_digest_45 : decode cX6_digest 45 = .ok (.iload_n 3, 1) := by decide +kernel
theorem dX6_digest_46 : decode cX6_digest 46 = .ok (.invokevirtual 258, 3) := by decide +kernel
theorem dX6_digest_49 : decode cX6_digest 49 = .ok (.i2l, 1) := by decide +kernel
theorem dX6_digest_50 : decode cX6_digest 50 = .ok (.ladd, 1) := by decide +kernel
theorem dX6_digest_51 : decode cX6_digest 51 = .ok (.lstore_n 1, 1) := by decide +kernel
theorem dX6_digest_52 : decode cX6_digest 52 = .ok (.iinc 3 1, 3) := by decide +kernel
theorem dX6_digest_55 : decode cX6_digest 55 = .ok (.goto (-22), 3) := by decide +kernel
theorem dX6_digest_58 : decode cX6_digest 58 = .ok (.iconst 1, 1) := by decide +kernel
theorem dX6_digest_59 : decode cX6_digest 59 = .ok (.istore_n 3, 1) := by decide +kernel
theorem dX6_digest_60 : decode cX6_digest 60 = .ok (.iload_n 3, 1) := by decide +kernel
theorem dX6_digest_61 : decode cX6_digest 61 = .ok (.bipush 12, 2) := by decide +kernel
theorem dX6_digest_63 : decode cX6_digest 63 = .ok (.if_icmp .gt 27, 3) := by decide +kernel
theorem dX6_digest_66 : decode cX6_digest 66 = .ok (.aload_n 0, 1) := by decide +kernel
theorem dX6_digest_67 : decode cX6_digest 67 = .ok (.getfield 10, 3) := by decide +kernel
theorem dX6_digest_70 : decode cX6_digest 70 = .ok (.iload_n 3, 1) := by decide +kernel
theorem dX6_digest_71 : decode cX6_digest 71 = .ok (.invokevirtual 46, 3) := by decide +kernel
theorem dX6_digest_74 : decode cX6_digest 74 = .ok (.ifCond .eq 10, 3) := by decide +kernel
theorem dX6_digest_77 : decode cX6_digest 77 = .ok (.aload_n 0, 1) := by decide +kernel
theorem dX6_digest_78 : decode cX6_digest 78 = .ok (.lload_n 1, 1) := by decide +kernel
theorem dX6_digest_79 : decode cX6_digest 79 = .ok (.iload_n 3, 1) := by decide +kernel
theorem dX6_digest_80 : decode cX6_digest 80 = .ok (.invokevirtual 261, 3) := by decide +kernel
theorem dX6_digest_83 : decode cX6_digest 83 = .ok (.lstore_n 1, 1) := by decide +kernel
theorem dX6_digest_84 : decode cX6_digest 84 = .ok (.iinc 3 1, 3) := by decide +kernel
theorem dX6_digest_87 : decode cX6_digest 87 = .ok (.goto (-27), 3) := by decide +kernel
theorem dX6_digest_90 : decode cX6_digest 90 = .ok (.ldc2_w 253, 3) := by decide +kernel
theorem dX6_digest_93 : decode cX6_digest 93 = .ok (.lload_n 1, 1) := by decide +kernel
theorem dX6_digest_94 : decode cX6_digest 94 = .ok (.lmul, 1) := by decide +kernel
theorem dX6_digest_95 : decode cX6_digest 95 = .ok (.aload_n 0, 1) := by decide +kernel
theorem dX6_digest_96 : decode cX6_digest 96 = .ok (.iconst 0, 1) := by decide +kernel
theorem dX6_digest_97 : decode cX6_digest 97 = .ok (.iconst 1, 1) := by decide +kernel
theorem dX6_digest_98 : decode cX6_digest 98 = .ok (.invokevirtual 265, 3) := by decide +kernel
theorem dX6_digest_101 : decode cX6_digest 101 = .ok (.ladd, 1) := by decide +kernel
theorem dX6_digest_102 : decode cX6_digest 102 = .ok (.lstore_n 1, 1) := by decide +kernel
theorem dX6_digest_103 : decode cX6_digest 103 = .ok (.ldc2_w 253, 3) := by decide +kernel
theorem dX6_digest_106 : decode cX6_digest 106 = .ok (.lload_n 1, 1) := by decide +kernel
theorem dX6_digest_107 : decode cX6_digest 107 = .ok (.lmul, 1) := by decide +kernel
theorem dX6_digest_108 : decode cX6_digest 108 = .ok (.aload_n 0, 1) := by decide +kernel
theorem dX6_digest_109 : decode cX6_digest 109 = .ok (.invokevirtual 268, 3) := by decide +kernel
theorem dX6_digest_112 : decode cX6_digest 112 = .ok (.i2l, 1) := by decide +kernel
theorem dX6_digest_113 : decode cX6_digest 113 = .ok (.ladd, 1) := by decide +kernel
theorem dX6_digest_114 : decode cX6_digest 114 = .ok (.lreturn, 1) := by decide +kernel
theorem dX6_digestStream_0 : decode cX6_digestStream 0 = .ok (.ldc2_w 253, 3) := by decide +kernel
theorem dX6_digestStream_3 : decode cX6_digestStream 3 = .ok (.lload_n 1, 1) := by decide +kernel
theorem dX6_digestStream_4 : decode cX6_digestStream 4 = .ok (.lmul, 1) := by decide +kernel
theorem dX6_digestStream_5 : decode cX6_digestStream 5 = .ok (.iload_n 3, 1) := by decide +kernel
theorem dX6_digestStream_6 : decode cX6_digestStream 6 = .ok (.i2l, 1) := by decide +kernel
theorem dX6_digestStream_7 : decode cX6_digestStream 7 = .ok (.ladd, 1) := by decide +kernel
theorem dX6_digestStream_8 : decode cX6_digestStream 8 = .ok (.lstore 4, 2) := by decide +kernel
theorem dX6_digestStream_10 : decode cX6_digestStream 10 = .ok (.iconst 0, 1) := by decide +kernel
theorem dX6_digestStream_11 : decode cX6_digestStream 11 = .ok (.istore 6, 2) := by decide +kernel
theorem dX6_digestStream_13 : decode cX6_digestStream 13 = .ok (.iload 6, 2) := by decide +kernel
theorem dX6_digestStream_15 : decode cX6_digestStream 15 = .ok (.bipush 15, 2) := by decide +kernel
theorem dX6_digestStream_17 : decode cX6_digestStream 17 = .ok (.if_icmp .gt 26, 3) := by decide +kernel
theorem dX6_digestStream_20 : decode cX6_digestStream 20 = .ok (.ldc2_w 253, 3) := by decide +kernel
theorem dX6_digestStream_23 : decode cX6_digestStream 23 = .ok (.lload 4, 2) := by decide +kernel
theorem dX6_digestStream_25 : decode cX6_digestStream 25 = .ok (.lmul, 1) := by decide +kernel
theorem dX6_digestStream_26 : decode cX6_digestStream 26 = .ok (.aload_n 0, 1) := by decide +kernel
theorem dX6_digestStream_27 : decode cX6_digestStream 27 = .ok (.iload_n 3, 1) := by decide +kernel
theorem dX6_digestStream_28 : decode cX6_digestStream 28 = .ok (.iload 6, 2) := by decide +kernel
theorem dX6_digestStream_30 : decode cX6_digestStream 30 = .ok (.invokevirtual 271, 3) := by decide +kernel
theorem dX6_digestStream_33 : decode cX6_digestStream 33 = .ok (.i2l, 1) := by decide +kernel
theorem dX6_digestStream_34 : decode cX6_digestStream 34 = .ok (.ladd, 1) := by decide +kernel
theorem dX6_digestStream_35 : decode cX6_digestStream 35 = .ok (.lstore 4, 2) := by decide +kernel
theorem dX6_digestStream_37 : decode cX6_digestStream 37 = .ok (.iinc 6 1, 3) := by decide +kernel
theorem dX6_digestStream_40 : decode cX6_digestStream 40 = .ok (.goto (-27), 3) := by decide +kernel
theorem dX6_digestStream_43 : decode cX6_digestStream 43 = .ok (.ldc2_w 253, 3) := by decide +kernel
theorem dX6_digestStream_46 : decode cX6_digestStream 46 = .ok (.lload 4, 2) := by decide +kernel
theorem dX6_digestStream_48 : decode cX6_digestStream 48 = .ok (.lmul, 1) := by decide +kernel
theorem dX6_digestStream_49 : decode cX6_digestStream 49 = .ok (.aload_n 0, 1) := by decide +kernel
theorem dX6_digestStream_50 : decode cX6_digestStream 50 = .ok (.iload_n 3, 1) := by decide +kernel
theorem dX6_digestStream_51 : decode cX6_digestStream 51 = .ok (.iconst 0, 1) := by decide +kernel
theorem dX6_digestStream_52 : decode cX6_digestStream 52 = .ok (.invokevirtual 265, 3) := by decide +kernel
theorem dX6_digestStream_55 : decode cX6_digestStream 55 = .ok (.ladd, 1) := by decide +kernel
theorem dX6_digestStream_56 : decode cX6_digestStream 56 = .ok (.lstore 4, 2) := by decide +kernel
theorem dX6_digestStream_58 : decode cX6_digestStream 58 = .ok (.ldc2_w 253, 3) := by decide +kernel
theorem dX6_digestStream_61 : decode cX6_digestStream 61 = .ok (.lload 4, 2) := by decide +kernel
theorem dX6_digestStream_63 : decode cX6_digestStream 63 = .ok (.lmul, 1) := by decide +kernel
theorem dX6_digestStream_64 : decode cX6_digestStream 64 = .ok (.aload_n 0, 1) := by decide +kernel
theorem dX6_digestStream_65 : decode cX6_digestStream 65 = .ok (.iload_n 3, 1) := by decide +kernel
theorem dX6_digestStream_66 : decode cX6_digestStream 66 = .ok (.iconst 1, 1) := by decide +kernel
theorem dX6_digestStream_67 : decode cX6_digestStream 67 = .ok (.invokevirtual 265, 3) := by decide +kernel
theorem dX6_digestStream_70 : decode cX6_digestStream 70 = .ok (.ladd, 1) := by decide +kernel
theorem dX6_digestStream_71 : decode cX6_digestStream 71 = .ok (.lreturn, 1) := by decide +kernel
theorem dX6_refuse_0 : decode cX6_refuse 0 = .ok (.iload_n 1, 1) := by decide +kernel
theorem dX6_refuse_1 : decode cX6_refuse 1 = .ok (.bipush (-2), 2) := by decide +kernel
theorem dX6_refuse_3 : decode cX6_refuse 3 = .ok (.if_icmp .ne 16, 3) := by decide +kernel
theorem dX6_refuse_6 : decode cX6_refuse 6 = .ok (.aload_n 0, 1) := by decide +kernel
theorem dX6_refuse_7 : decode cX6_refuse 7 = .ok (.dup, 1) := by decide +kernel
theorem dX6_refuse_8 : decode cX6_refuse 8 = .ok (.getfield 227, 3) := by decide +kernel
theorem dX6_refuse_11 : decode cX6_refuse 11 = .ok (.iconst 1, 1) := by decide +kernel
theorem dX6_refuse_12 : decode cX6_refuse 12 = .ok (.iadd, 1) := by decide +kernel
theorem dX6_refuse_13 : decode cX6_refuse 13 = .ok (.putfield 227, 3) := by decide +kernel
theorem dX6_refuse_16 : decode cX6_refuse 16 = .ok (.goto 32, 3) := by decide +kernel
theorem dX6_refuse_19 : decode cX6_refuse 19 = .ok (.iload_n 1, 1) := by decide +kernel
theorem dX6_refuse_20 : decode cX6_refuse 20 = .ok (.bipush (-3), 2) := by decide +kernel
theorem dX6_refuse_22 : decode cX6_refuse 22 = .ok (.if_icmp .ne 16, 3) := by decide +kernel
theorem dX6_refuse_25 : decode cX6_refuse 25 = .ok (.aload_n 0, 1) := by decide +kernel
theorem dX6_refuse_26 : decode cX6_refuse 26 = .ok (.dup, 1) := by decide +kernel
theorem dX6_refuse_27 : decode cX6_refuse 27 = .ok (.getfield 230, 3) := by decide +kernel
theorem dX6_refuse_30 : decode cX6_refuse 30 = .ok (.iconst 1, 1) := by decide +kernel
theorem dX6_refuse_31 : decode cX6_refuse 31 = .ok (.iadd, 1) := by decide +kernel
theorem dX6_refuse_32 : decode cX6_refuse 32 = .ok (.putfield 230, 3) := by decide +kernel
theorem dX6_refuse_35 : decode cX6_refuse 35 = .ok (.goto 13, 3) := by decide +kernel
theorem dX6_refuse_38 : decode cX6_refuse 38 = .ok (.aload_n 0, 1) := by decide +kernel
theorem dX6_refuse_39 : decode cX6_refuse 39 = .ok (.dup, 1) := by decide +kernel
theorem dX6_refuse_40 : decode cX6_refuse 40 = .ok (.getfield 233, 3) := by decide +kernel
theorem dX6_refuse_43 : decode cX6_refuse 43 = .ok (.iconst 1, 1) := by decide +kernel
theorem dX6_refuse_44 : decode cX6_refuse 44 = .ok (.iadd, 1) := by decide +kernel
theorem dX6_refuse_45 : decode cX6_refuse 45 = .ok (.putfield 233, 3) := by decide +kernel
theorem dX6_refuse_48 : decode cX6_refuse 48 = .ok (.iload_n 1, 1) := by decide +kernel
theorem dX6_refuse_49 : decode cX6_refuse 49 = .ok (.ireturn, 1) := by decide +kernel
theorem dX6_leaveState_0 : decode cX6_leaveState 0 = .ok (.aload_n 0, 1) := by decide +kernel
theorem dX6_leaveState_1 : decode cX6_leaveState 1 = .ok (.getfield 218, 3) := by decide +kernel
theorem dX6_leaveState_4 : decode cX6_leaveState 4 = .ok (.iconst 5, 1) := by decide +kernel
theorem dX6_leaveState_5 : decode cX6_leaveState 5 = .ok (.if_icmp .ne 25, 3) := by decide +kernel
theorem dX6_leaveState_8 : decode cX6_leaveState 8 = .ok (.aload_n 0, 1) := by decide +kernel
theorem dX6_leaveState_9 : decode cX6_leaveState 9 = .ok (.aload_n 0, 1) := by decide +kernel
theorem dX6_leaveState_10 : decode cX6_leaveState 10 = .ok (.getfield 221, 3) := by decide +kernel
theorem dX6_leaveState_13 : decode cX6_leaveState 13 = .ok (.iconst 1, 1) := by decide +kernel
theorem dX6_leaveState_14 : decode cX6_leaveState 14 = .ok (.iadd, 1) := by decide +kernel
theorem dX6_leaveState_15 : decode cX6_leaveState 15 = .ok (.iconst 5, 1) := by decide +kernel
theorem dX6_leaveState_16 : decode cX6_leaveState 16 = .ok (.irem, 1) := by decide +kernel
theorem dX6_leaveState_17 : decode cX6_leaveState 17 = .ok (.putfield 221, 3) := by decide +kernel
theorem dX6_leaveState_20 : decode cX6_leaveState 20 = .ok (.aload_n 0, 1) := by decide +kernel
theorem dX6_leaveState_21 : decode cX6_leaveState 21 = .ok (.dup, 1) := by decide +kernel
theorem dX6_leaveState_22 : decode cX6_leaveState 22 = .ok (.getfield 218, 3) := by decide +kernel
theorem dX6_leaveState_25 : decode cX6_leaveState 25 = .ok (.iconst 1, 1) := by decide +kernel
theorem dX6_leaveState_26 : decode cX6_leaveState 26 = .ok (.isub, 1) := by decide +kernel
theorem dX6_leaveState_27 : decode cX6_leaveState 27 = .ok (.putfield 218, 3) := by decide +kernel
theorem dX6_leaveState_30 : decode cX6_leaveState 30 = .ok (.aload_n 0, 1) := by decide +kernel
theorem dX6_leaveState_31 : decode cX6_leaveState 31 = .ok (.getfield 16, 3) := by decide +kernel
theorem dX6_leaveState_34 : decode cX6_leaveState 34 = .ok (.aload_n 0, 1) := by decide +kernel
theorem dX6_leaveState_35 : decode cX6_leaveState 35 = .ok (.getfield 221, 3) := by decide +kernel
theorem dX6_leaveState_38 : decode cX6_leaveState 38 = .ok (.aload_n 0, 1) := by decide +kernel
theorem dX6_leaveState_39 : decode cX6_leaveState 39 = .ok (.getfield 218, 3) := by decide +kernel
theorem dX6_leaveState_42 : decode cX6_leaveState 42 = .ok (.iadd, 1) := by decide +kernel
theorem dX6_leaveState_43 : decode cX6_leaveState 43 = .ok (.iconst 5, 1) := by decide +kernel
theorem dX6_leaveState_44 : decode cX6_leaveState 44 = .ok (.irem, 1) := by decide +kernel
theorem dX6_leaveState_45 : decode cX6_leaveState 45 = .ok (.aaload, 1) := by decide +kernel
theorem dX6_leaveState_46 : decode cX6_leaveState 46 = .ok (.aload_n 0, 1) := by decide +kernel
theorem dX6_leaveState_47 : decode cX6_leaveState 47 = .ok (.getfield 10, 3) := by decide +kernel
theorem dX6_leaveState_50 : decode cX6_leaveState 50 = .ok (.invokevirtual 224, 3) := by decide +kernel
theorem dX6_leaveState_53 : decode cX6_leaveState 53 = .ok (.aload_n 0, 1) := by decide +kernel
theorem dX6_leaveState_54 : decode cX6_leaveState 54 = .ok (.dup, 1) := by decide +kernel
theorem dX6_leaveState_55 : decode cX6_leaveState 55 = .ok (.getfield 218, 3) := by decide +kernel
theorem dX6_leaveState_58 : decode cX6_leaveState 58 = .ok (.iconst 1, 1) := by decide +kernel
theorem dX6_leaveState_59 : decode cX6_leaveState 59 = .ok (.iadd, 1) := by decide +kernel
theorem dX6_leaveState_60 : decode cX6_leaveState 60 = .ok (.putfield 218, 3) := by decide +kernel
theorem dX6_leaveState_63 : decode cX6_leaveState 63 = .ok (.return_, 1) := by decide +kernel
theorem dX6_within_0 : decode cX6_within 0 = .ok (.iload_n 0, 1) := by decide +kernel
theorem dX6_within_1 : decode cX6_within 1 = .ok (.iload_n 1, 1) := by decide +kernel
theorem dX6_within_2 : decode cX6_within 2 = .ok (.if_icmp .lt 12, 3) := by decide +kernel
theorem dX6_within_5 : decode cX6_within 5 = .ok (.iload_n 0, 1) := by decide +kernel
theorem dX6_within_6 : decode cX6_within 6 = .ok (.iload_n 2, 1) := by decide +kernel
theorem dX6_within_7 : decode cX6_within 7 = .ok (.if_icmp .gt 7, 3) := by decide +kernel
theorem dX6_within_10 : decode cX6_within 10 = .ok (.iconst 1, 1) := by decide +kernel
theorem dX6_within_11 : decode cX6_within 11 = .ok (.goto 4, 3) := by decide +kernel
theorem dX6_within_14 : decode cX6_within 14 = .ok (.iconst 0, 1) := by decide +kernel
theorem dX6_within_15 : decode cX6_within 15 = .ok (.ireturn, 1) := by decide +kernel
theorem dX6_has_0 : decode cX6_has 0 = .ok (.iload_n 0, 1) := by decide +kernel
theorem dX6_has_1 : decode cX6_has 1 = .ok (.iload_n 1, 1) := by decide +kernel
theorem dX6_has_2 : decode cX6_has 2 = .ok (.ishr, 1) := by decide +kernel
theorem dX6_has_3 : decode cX6_has 3 = .ok (.iconst 1, 1) := by decide +kernel
theorem dX6_has_4 : decode cX6_has 4 = .ok (.iand, 1) := by decide +kernel
theorem dX6_has_5 : decode cX6_has 5 = .ok (.iconst 1, 1) := by decide +kernel
theorem dX6_has_6 : decode cX6_has 6 = .ok (.if_icmp .ne 7, 3) := by decide +kernel
theorem dX6_has_9 : decode cX6_has 9 = .ok (.iconst 1, 1) := by decide +kernel
theorem dX6_has_10 : decode cX6_has 10 = .ok (.goto 4, 3) := by decide +kernel
theorem dX6_has_13 : decode cX6_has 13 = .ok (.iconst 0, 1) := by decide +kernel
theorem dX6_has_14 : decode cX6_has 14 = .ok (.ireturn, 1) := by decide +kernel
theorem dX6_cut_0 : decode cX6_cut 0 = .ok (.lload_n 2, 1) := by decide +kernel
theorem dX6_cut_1 : decode cX6_cut 1 = .ok (.lconst 1, 1) := by decide +kernel
theorem dX6_cut_2 : decode cX6_cut 2 = .ok (.lcmp, 1) := by decide +kernel
theorem dX6_cut_3 : decode cX6_cut 3 = .ok (.ifCond .ge 7, 3) := by decide +kernel
theorem dX6_cut_6 : decode cX6_cut 6 = .ok (.lconst 0, 1) := by decide +kernel
theorem dX6_cut_7 : decode cX6_cut 7 = .ok (.goto 6, 3) := by decide +kernel
theorem dX6_cut_10 : decode cX6_cut 10 = .ok (.lload_n 0, 1) := by decide +kernel
theorem dX6_cut_11 : decode cX6_cut 11 = .ok (.lload_n 2, 1) := by decide +kernel
theorem dX6_cut_12 : decode cX6_cut 12 = .ok (.ldiv, 1) := by decide +kernel
theorem dX6_cut_13 : decode cX6_cut 13 = .ok (.lreturn, 1) := by decide +kernel
theorem dX7_init_0 : decode cX7_init 0 = .ok (.aload_n 0, 1) := by decide +kernel
theorem dX7_init_1 : decode cX7_init 1 = .ok (.invokespecial 1, 3) := by decide +kernel
theorem dX7_init_4 : decode cX7_init 4 = .ok (.aload_n 0, 1) := by decide +kernel
theorem dX7_init_5 : decode cX7_init 5 = .ok (.sipush 215, 3) := by decide +kernel
theorem dX7_init_8 : decode cX7_init 8 = .ok (.newarray .long, 2) := by decide +kernel
theorem dX7_init_10 : decode cX7_init 10 = .ok (.putfield 7, 3) := by decide +kernel
theorem dX7_init_13 : decode cX7_init 13 = .ok (.aload_n 0, 1) := by decide +kernel
theorem dX7_init_14 : decode cX7_init 14 = .ok (.sipush 1075, 3) := by decide +kernel
theorem dX7_init_17 : decode cX7_init 17 = .ok (.newarray .long, 2) := by decide +kernel
theorem dX7_init_19 : decode cX7_init 19 = .ok (.putfield 13, 3) := by decide +kernel
theorem dX7_init_22 : decode cX7_init 22 = .ok (.aload_n 0, 1) := by decide +kernel
theorem dX7_init_23 : decode cX7_init 23 = .ok (.iconst 3, 1) := by decide +kernel
theorem dX7_init_24 : decode cX7_init 24 = .ok (.newarray .int, 2) := by decide +kernel
theorem dX7_init_26 : decode cX7_init 26 = .ok (.putfield 16, 3) := by decide +kernel
theorem dX7_init_29 : decode cX7_init 29 = .ok (.aload_n 0, 1) := by decide +kernel
theorem dX7_init_30 : decode cX7_init 30 = .ok (.bipush 120, 2) := by decide +kernel
theorem dX7_init_32 : decode cX7_init 32 = .ok (.newarray .int, 2) := by decide +kernel
theorem dX7_init_34 : decode cX7_init 34 = .ok (.putfield 20, 3) := by decide +kernel
theorem dX7_init_37 : decode cX7_init 37 = .ok (.aload_n 0, 1) := by decide +kernel
theorem dX7_init_38 : decode cX7_init 38 = .ok (.bipush 12, 2) := by decide +kernel
theorem dX7_init_40 : decode cX7_init 40 = .ok (.newarray .int, 2) := by decide +kernel
theorem dX7_init_42 : decode cX7_init 42 = .ok (.putfield 23, 3) := by decide +kernel
theorem dX7_init_45 : decode cX7_init 45 = .ok (.aload_n 0, 1) := by decide +kernel
theorem dX7_init_46 : decode cX7_init 46 = .ok (.bipush 12, 2) := by decide +kernel
theorem dX7_init_48 : decode cX7_init 48 = .ok (.newarray .int, 2) := by decide +kernel
theorem dX7_init_50 : decode cX7_init 50 = .ok (.putfield 26, 3) := by decide +kernel
theorem dX7_init_53 : decode cX7_init 53 = .ok (.aload_n 0, 1) := by decide +kernel
theorem dX7_init_54 : decode cX7_init 54 = .ok (.bipush 12, 2) := by decide +kernel
theorem dX7_init_56 : decode cX7_init 56 = .ok (.newarray .int, 2) := by decide +kernel
theorem dX7_init_58 : decode cX7_init 58 = .ok (.putfield 29, 3) := by decide +kernel
theorem dX7_init_61 : decode cX7_init 61 = .ok (.aload_n 0, 1) := by decide +kernel
theorem dX7_init_62 : decode cX7_init 62 = .ok (.getfield 7, 3) := by decide +kernel
theorem dX7_init_65 : decode cX7_init 65 = .ok (.sipush 208, 3) := by decide +kernel
theorem dX7_init_68 : decode cX7_init 68 = .ok (.ldc2_w 32, 3) := by decide +kernel
theorem dX7_init_71 : decode cX7_init 71 = .ok (.lastore, 1) := by decide +kernel
theorem dX7_init_72 : decode cX7_init 72 = .ok (.aload_n 0, 1) := by decide +kernel
theorem dX7_init_73 : decode cX7_init 73 = .ok (.getfield 7, 3) := by decide +kernel
theorem dX7_init_76 : decode cX7_init 76 = .ok (.sipush 209, 3) := by decide +kernel
theorem dX7_init_79 : decode cX7_init 79 = .ok (.ldc2_w 34, 3) := by decide +kernel
theorem dX7_init_82 : decode cX7_init 82 = .ok (.lastore, 1) := by decide +kernel
theorem dX7_init_83 : decode cX7_init 83 = .ok (.aload_n 0, 1) := by decide +kernel
theorem dX7_init_84 : decode cX7_init 84 = .ok (.getfield 7, 3) := by decide +kernel
theorem dX7_init_87 : decode cX7_init 87 = .ok (.sipush 210, 3) := by decide +kernel
theorem dX7_init_90 : decode cX7_init 90 = .ok (.ldc2_w 36, 3) := by decide +kernel
theorem dX7_init_93 : decode cX7_init 93 = .ok (.lastore, 1) := by decide +kernel
theorem dX7_init_94 : decode cX7_init 94 = .ok (.aload_n 0, 1) := by decide +kernel
theorem dX7_init_95 : decode cX7_init 95 = .ok (.getfield 7, 3) := by decide +kernel
theorem dX7_init_98 : decode cX7_init 98 = .ok (.sipush 214, 3) := by decide +kernel
theorem dX7_init_101 : decode cX7_init 101 = .ok (.ldc2_w 38, 3) := by decide +kernel
theorem dX7_init_104 : decode cX7_init 104 = .ok (.lastore, 1) := by decide +kernel
theorem dX7_init_105 : decode cX7_init 105 = .ok (.return_, 1) := by decide +kernel
theorem dX7_in_0 : decode cX7_in 0 = .ok (.lload_n 0, 1) := by decide +kernel
theorem dX7_in_1 : decode cX7_in 1 = .ok (.lload_n 2, 1) := by decide +kernel
theorem dX7_in_2 : decode cX7_in 2 = .ok (.lcmp, 1) := by decide +kernel
theorem dX7_in_3 : decode cX7_in 3 = .ok (.ifCond .lt 14, 3) := by decide +kernel
theorem dX7_in_6 : decode cX7_in 6 = .ok (.lload_n 0, 1) := by decide +kernel
theorem dX7_in_7 : decode cX7_in 7 = .ok (.lload 4, 2) := by decide +kernel
theorem dX7_in_9 : decode cX7_in 9 = .ok (.lcmp, 1) := by decide +kernel
theorem dX7_in_10 : decode cX7_in 10 = .ok (.ifCond .gt 7, 3) := by decide +kernel
theorem dX7_in_13 : decode cX7_in 13 = .ok (.iconst 1, 1) := by decide +kernel
theorem dX7_in_14 : decode cX7_in 14 = .ok (.goto 4, 3) := by decide +kernel
theorem dX7_in_17 : decode cX7_in 17 = .ok (.iconst 0, 1) := by decide +kernel
theorem dX7_in_18 : decode cX7_in 18 = .ok (.ireturn, 1) := by decide +kernel
theorem dX7_refuses_0 : decode cX7_refuses 0 = .ok (.aload_n 0, 1) := by decide +kernel
theorem dX7_refuses_1 : decode cX7_refuses 1 = .ok (.getfield 16, 3) := by decide +kernel
theorem dX7_refuses_4 : decode cX7_refuses 4 = .ok (.bipush (-2), 2) := by decide +kernel
theorem dX7_refuses_6 : decode cX7_refuses 6 = .ok (.iload_n 1, 1) := by decide +kernel
theorem dX7_refuses_7 : decode cX7_refuses 7 = .ok (.isub, 1) := by decide +kernel
theorem dX7_refuses_8 : decode cX7_refuses 8 = .ok (.dup2, 1) := by decide +kernel
theorem dX7_refuses_9 : decode cX7_refuses 9 = .ok (.iaload, 1) := by decide +kernel
theorem dX7_refuses_10 : decode cX7_refuses 10 = .ok (.iconst 1, 1) := by decide +kernel
theorem dX7_refuses_11 : decode cX7_refuses 11 = .ok (.iadd, 1) := by decide +kernel
theorem dX7_refuses_12 : decode cX7_refuses 12 = .ok (.iastore, 1) := by decide +kernel
theorem dX7_refuses_13 : decode cX7_refuses 13 = .ok (.iload_n 1, 1) := by decide +kernel
theorem dX7_refuses_14 : decode cX7_refuses 14 = .ok (.ireturn, 1) := by decide +kernel
theorem dX7_keep_0 : decode cX7_keep 0 = .ok (.aload_n 0, 1) := by decide +kernel
theorem dX7_keep_1 : decode cX7_keep 1 = .ok (.getfield 40, 3) := by decide +kernel
theorem dX7_keep_4 : decode cX7_keep 4 = .ok (.iconst 5, 1) := by decide +kernel
theorem dX7_keep_5 : decode cX7_keep 5 = .ok (.if_icmp .ne 44, 3) := by decide +kernel
theorem dX7_keep_8 : decode cX7_keep 8 = .ok (.iconst 0, 1) := by decide +kernel
theorem dX7_keep_9 : decode cX7_keep 9 = .ok (.istore_n 1, 1) := by decide +kernel
theorem dX7_keep_10 : decode cX7_keep 10 = .ok (.iload_n 1, 1) := by decide +kernel
theorem dX7_keep_11 : decode cX7_keep 11 = .ok (.sipush 860, 3) := by decide +kernel
theorem dX7_keep_14 : decode cX7_keep 14 = .ok (.if_icmp .ge 25, 3) := by decide +kernel
theorem dX7_keep_17 : decode cX7_keep 17 = .ok (.aload_n 0, 1) := by decide +kernel
theorem dX7_keep_18 : decode cX7_keep 18 = .ok (.getfield 13, 3) := by decide +kernel
theorem dX7_keep_21 : decode cX7_keep 21 = .ok (.iload_n 1, 1) := by decide +kernel
theorem dX7_keep_22 : decode cX7_keep 22 = .ok (.aload_n 0, 1) := by decide +kernel
theorem dX7_keep_23 : decode cX7_keep 23 = .ok (.getfield 13, 3) := by decide +kernel
theorem dX7_keep_26 : decode cX7_keep 26 = .ok (.iload_n 1, 1) := by decide +kernel
theorem dX7_keep_27 : decode cX7_keep 27 = .ok (.sipush 215, 3) := by decide +kernel
theorem dX7_keep_30 : decode cX7_keep 30 = .ok (.iadd, 1) := by decide +kernel
theorem dX7_keep_31 : decode cX7_keep 31 = .ok (.laload, 1) := by decide +kernel
theorem dX7_keep_32 : decode cX7_keep 32 = .ok (.lastore, 1) := by decide +kernel
theorem dX7_keep_33 : decode cX7_keep 33 = .ok (.iinc 1 1, 3) := by decide +kernel
theorem dX7_keep_36 : decode cX7_keep 36 = .ok (.goto (-26), 3) := by decide +kernel
theorem dX7_keep_39 : decode cX7_keep 39 = .ok (.aload_n 0, 1) := by decide +kernel
theorem dX7_keep_40 : decode cX7_keep 40 = .ok (.dup, 1) := by decide +kernel
theorem dX7_keep_41 : decode cX7_keep 41 = .ok (.getfield 40, 3) := by decide +kernel
theorem dX7_keep_44 : decode cX7_keep 44 = .ok (.iconst 1, 1) := by decide +kernel
theorem dX7_keep_45 : decode cX7_keep 45 = .ok (.isub, 1) := by decide +kernel
theorem dX7_keep_46 : decode cX7_keep 46 = .ok (.putfield 40, 3) := by decide +kernel
theorem dX7_keep_49 : decode cX7_keep 49 = .ok (.iconst 0, 1) := by decide +kernel
theorem dX7_keep_50 : decode cX7_keep 50 = .ok (.istore_n 1, 1) := by decide +kernel
theorem dX7_keep_51 : decode cX7_keep 51 = .ok (.iload_n 1, 1) := by decide +kernel
theorem dX7_keep_52 : decode cX7_keep 52 = .ok (.sipush 215, 3) := by decide +kernel
theorem dX7_keep_55 : decode cX7_keep 55 = .ok (.if_icmp .ge 30, 3) := by decide +kernel
theorem dX7_keep_58 : decode cX7_keep 58 = .ok (.aload_n 0, 1) := by decide +kernel
theorem dX7_keep_59 : decode cX7_keep 59 = .ok (.getfield 13, 3) := by decide +kernel
theorem dX7_keep_62 : decode cX7_keep 62 = .ok (.sipush 215, 3) := by decide +kernel
theorem dX7_keep_65 : decode cX7_keep 65 = .ok (.aload_n 0, 1) := by decide +kernel
theorem dX7_keep_66 : decode cX7_keep 66 = .ok (.getfield 40, 3) := by decide +kernel
theorem dX7_keep_69 : decode cX7_keep 69 = .ok (.imul, 1) := by decide +kernel
theorem dX7_keep_70 : decode cX7_keep 70 = .ok (.iload_n 1, 1) := by decide +kernel
theorem dX7_keep_71 : decode cX7_keep 71 = .ok (.iadd, 1) := by decide +kernel
theorem dX7_keep_72 : decode cX7_keep 72 = .ok (.aload_n 0, 1) := by decide +kernel
theorem dX7_keep_73 : decode cX7_keep 73 = .ok (.getfield 7, 3) := by decide +kernel
theorem dX7_keep_76 : decode cX7_keep 76 = .ok (.iload_n 1, 1) := by decide +kernel
theorem dX7_keep_77 : decode cX7_keep 77 = .ok (.laload, 1) := by decide +kernel
theorem dX7_keep_78 : decode cX7_keep 78 = .ok (.lastore, 1) := by decide +kernel
theorem dX7_keep_79 : decode cX7_keep 79 = .ok (.iinc 1 1, 3) := by decide +kernel
theorem dX7_keep_82 : decode cX7_keep 82 = .ok (.goto (-31), 3) := by decide +kernel
theorem dX7_keep_85 : decode cX7_keep 85 = .ok (.aload_n 0, 1) := by decide +kernel
theorem dX7_keep_86 : decode cX7_keep 86 = .ok (.dup, 1) := by decide +kernel
theorem dX7_keep_87 : decode cX7_keep 87 = .ok (.getfield 40, 3) := by decide +kernel
theorem dX7_keep_90 : decode cX7_keep 90 = .ok (.iconst 1, 1) := by decide +kernel
theorem dX7_keep_91 : decode cX7_keep 91 = .ok (.iadd, 1) := by decide +kernel
theorem dX7_keep_92 : decode cX7_keep 92 = .ok (.putfield 40, 3) := by decide +kernel
theorem dX7_keep_95 : decode cX7_keep 95 = .ok (.return_, 1) := by decide +kernel
theorem dX7_its_0 : decode cX7_its 0 = .ok (.aload_n 0, 1) := by decide +kernel
theorem dX7_its_1 : decode cX7_its 1 = .ok (.getfield 7, 3) := by decide +kernel
theorem dX7_its_4 : decode cX7_its 4 = .ok (.bipush 16, 2) := by decide +kernel
theorem dX7_its_6 : decode cX7_its 6 = .ok (.iload_n 1, 1) := by decide +kernel
theorem dX7_its_7 : decode cX7_its 7 = .ok (.imul, 1) := by decide +kernel
theorem dX7_its_8 : decode cX7_its 8 = .ok (.iload_n 2, 1) := by decide +kernel
theorem dX7_its_9 : decode cX7_its 9 = .ok (.iadd, 1) := by decide +kernel
theorem dX7_its_10 : decode cX7_its 10 = .ok (.laload, 1) := by decide +kernel
theorem dX7_its_11 : decode cX7_its 11 = .ok (.lreturn, 1) := by decide +kernel
theorem dX7_puts_0 : decode cX7_puts 0 = .ok (.aload_n 0, 1) := by decide +kernel
theorem dX7_puts_1 : decode cX7_puts 1 = .ok (.getfield 7, 3) := by decide +kernel
theorem dX7_puts_4 : decode cX7_puts 4 = .ok (.bipush 16, 2) := by decide +kernel
theorem dX7_puts_6 : decode cX7_puts 6 = .ok (.iload_n 1, 1) := by decide +kernel
theorem dX7_puts_7 : decode cX7_puts 7 = .ok (.imul, 1) := by decide +kernel
theorem dX7_puts_8 : decode cX7_puts 8 = .ok (.iload_n 2, 1) := by decide +kernel
theorem dX7_puts_9 : decode cX7_puts 9 = .ok (.iadd, 1) := by decide +kernel
theorem dX7_puts_10 : decode cX7_puts 10 = .ok (.lload_n 3, 1) := by decide +kernel
theorem dX7_puts_11 : decode cX7_puts 11 = .ok (.lastore, 1) := by decide +kernel
theorem dX7_puts_12 : decode cX7_puts 12 = .ok (.return_, 1) := by decide +kernel
theorem dX7_isStream_0 : decode cX7_isStream 0 = .ok (.iload_n 1, 1) := by decide +kernel
theorem dX7_isStream_1 : decode cX7_isStream 1 = .ok (.i2l, 1) := by decide +kernel
theorem dX7_isStream_2 : decode cX7_isStream 2 = .ok (.lconst 1, 1) := by decide +kernel
theorem dX7_isStream_3 : decode cX7_isStream 3 = .ok (.ldc2_w 44, 3) := by decide +kernel
theorem dX7_isStream_6 : decode cX7_isStream 6 = .ok (.invokestatic 46, 3) := by decide +kernel
theorem dX7_isStream_9 : decode cX7_isStream 9 = .ok (.ifCond .eq 18, 3) := by decide +kernel
theorem dX7_isStream_12 : decode cX7_isStream 12 = .ok (.aload_n 0, 1) := by decide +kernel
theorem dX7_isStream_13 : decode cX7_isStream 13 = .ok (.iload_n 1, 1) := by decide +kernel
theorem dX7_isStream_14 : decode cX7_isStream 14 = .ok (.iconst 0, 1) := by decide +kernel
theorem dX7_isStream_15 : decode cX7_isStream 15 = .ok (.invokevirtual 50, 3) := by decide +kernel
theorem dX7_isStream_18 : decode cX7_isStream 18 = .ok (.lconst 1, 1) := by decide +kernel
theorem dX7_isStream_19 : decode cX7_isStream 19 = .ok (.lcmp, 1) := by decide +kernel
theorem dX7_isStream_20 : decode cX7_isStream 20 = .ok (.ifCond .ne 7, 3) := by decide +kernel
theorem dX7_isStream_23 : decode cX7_isStream 23 = .ok (.iconst 1, 1) := by decide +kernel
theorem dX7_isStream_24 : decode cX7_isStream 24 = .ok (.goto 4, 3) := by decide +kernel
theorem dX7_isStream_27 : decode cX7_isStream 27 = .ok (.iconst 0, 1) := by decide +kernel
theorem dX7_isStream_28 : decode cX7_isStream 28 = .ok (.ireturn, 1) := by decide +kernel
theorem dX7_isPlace_0 : decode cX7_isPlace 0 = .ok (.iload_n 1, 1) := by decide +kernel
theorem dX7_isPlace_1 : decode cX7_isPlace 1 = .ok (.ifCond .eq 11, 3) := by decide +kernel
theorem dX7_isPlace_4 : decode cX7_isPlace 4 = .ok (.aload_n 0, 1) := by decide +kernel
theorem dX7_isPlace_5 : decode cX7_isPlace 5 = .ok (.iload_n 1, 1) := by decide +kernel
theorem dX7_isPlace_6 : decode cX7_isPlace 6 = .ok (.invokevirtual 54, 3) := by decide +kernel
theorem dX7_isPlace_9 : decode cX7_isPlace 9 = .ok (.ifCond .eq 7, 3) := by decide +kernel
theorem dX7_isPlace_12 : decode cX7_isPlace 12 = .ok (.iconst 1, 1) := by decide +kernel
theorem dX7_isPlace_13 : decode cX7_isPlace 13 = .ok (.goto 4, 3) := by decide +kernel
theorem dX7_isPlace_16 : decode cX7_isPlace 16 = .ok (.iconst 0, 1) := by decide +kernel
theorem dX7_isPlace_17 : decode cX7_isPlace 17 = .ok (.ireturn, 1) := by decide +kernel
theorem dX7_parent_0 : decode cX7_parent 0 = .ok (.aload_n 0, 1) := by decide +kernel
theorem dX7_parent_1 : decode cX7_parent 1 = .ok (.iload_n 1, 1) := by decide +kernel
theorem dX7_parent_2 : decode cX7_parent 2 = .ok (.iconst 1, 1) := by decide +kernel
theorem dX7_parent_3 : decode cX7_parent 3 = .ok (.invokevirtual 50, 3) := by decide +kernel
theorem dX7_parent_6 : decode cX7_parent 6 = .ok (.l2i, 1) := by decide +kernel
theorem dX7_parent_7 : decode cX7_parent 7 = .ok (.ireturn, 1) := by decide +kernel
theorem dX7_isChild_0 : decode cX7_isChild 0 = .ok (.aload_n 0, 1) := by decide +kernel
theorem dX7_isChild_1 : decode cX7_isChild 1 = .ok (.iload_n 1, 1) := by decide +kernel
theorem dX7_isChild_2 : decode cX7_isChild 2 = .ok (.invokevirtual 54, 3) := by decide +kernel
theorem dX7_isChild_5 : decode cX7_isChild 5 = .ok (.ifCond .eq 16, 3) := by decide +kernel
theorem dX7_isChild_8 : decode cX7_isChild 8 = .ok (.aload_n 0, 1) := by decide +kernel
theorem dX7_isChild_9 : decode cX7_isChild 9 = .ok (.iload_n 1, 1) := by decide +kernel
theorem dX7_isChild_10 : decode cX7_isChild 10 = .ok (.invokevirtual 58, 3) := by decide +kernel
theorem dX7_isChild_13 : decode cX7_isChild 13 = .ok (.iload_n 2, 1) := by decide +kernel
theorem dX7_isChild_14 : decode cX7_isChild 14 = .ok (.if_icmp .ne 7, 3) := by decide +kernel
theorem dX7_isChild_17 : decode cX7_isChild 17 = .ok (.iconst 1, 1) := by decide +kernel
theorem dX7_isChild_18 : decode cX7_isChild 18 = .ok (.goto 4, 3) := by decide +kernel
theorem dX7_isChild_21 : decode cX7_isChild 21 = .ok (.iconst 0, 1) := by decide +kernel
theorem dX7_isChild_22 : decode cX7_isChild 22 = .ok (.ireturn, 1) := by decide +kernel
theorem dX7_isBelow_0 : decode cX7_isBelow 0 = .ok (.iload_n 1, 1) := by decide +kernel
theorem dX7_isBelow_1 : decode cX7_isBelow 1 = .ok (.istore_n 3, 1) := by decide +kernel
theorem dX7_isBelow_2 : decode cX7_isBelow 2 = .ok (.iload_n 3, 1) := by decide +kernel
theorem dX7_isBelow_3 : decode cX7_isBelow 3 = .ok (.ifCond .eq 16, 3) := by decide +kernel
theorem dX7_isBelow_6 : decode cX7_isBelow 6 = .ok (.aload_n 0, 1) := by decide +kernel
theorem dX7_isBelow_7 : decode cX7_isBelow 7 = .ok (.iload_n 3, 1) := by decide +kernel
theorem dX7_isBelow_8 : decode cX7_isBelow 8 = .ok (.invokevirtual 58, 3) := by decide +kernel
theorem dX7_isBelow_11 : decode cX7_isBelow 11 = .ok (.istore_n 3, 1) := by decide +kernel
theorem dX7_isBelow_12 : decode cX7_isBelow 12 = .ok (.iload_n 3, 1) := by decide +kernel
theorem dX7_isBelow_13 : decode cX7_isBelow 13 = .ok (.iload_n 2, 1) := by decide +kernel
theorem dX7_isBelow_14 : decode cX7_isBelow 14 = .ok (.if_icmp .ne (-12), 3) := by decide +kernel
theorem dX7_isBelow_17 : decode cX7_isBelow 17 = .ok (.iconst 1, 1) := by decide +kernel
theorem dX7_isBelow_18 : decode cX7_isBelow 18 = .ok (.ireturn, 1) := by decide +kernel
theorem dX7_isBelow_19 : decode cX7_isBelow 19 = .ok (.iconst 0, 1) := by decide +kernel
theorem dX7_isBelow_20 : decode cX7_isBelow 20 = .ok (.ireturn, 1) := by decide +kernel
theorem dX7_children_0 : decode cX7_children 0 = .ok (.iconst 0, 1) := by decide +kernel
theorem dX7_children_1 : decode cX7_children 1 = .ok (.istore_n 2, 1) := by decide +kernel
theorem dX7_children_2 : decode cX7_children 2 = .ok (.iconst 1, 1) := by decide +kernel
theorem dX7_children_3 : decode cX7_children 3 = .ok (.istore_n 3, 1) := by decide +kernel
theorem dX7_children_4 : decode cX7_children 4 = .ok (.iload_n 3, 1) := by decide +kernel
theorem dX7_children_5 : decode cX7_children 5 = .ok (.bipush 12, 2) := by decide +kernel
theorem dX7_children_7 : decode cX7_children 7 = .ok (.if_icmp .gt 26, 3) := by decide +kernel
theorem dX7_children_10 : decode cX7_children 10 = .ok (.iload_n 2, 1) := by decide +kernel
theorem dX7_children_11 : decode cX7_children 11 = .ok (.aload_n 0, 1) := by decide +kernel
theorem dX7_children_12 : decode cX7_children 12 = .ok (.iload_n 3, 1) := by decide +kernel
theorem dX7_children_13 : decode cX7_children 13 = .ok (.iload_n 1, 1) := by decide +kernel
theorem dX7_children_14 : decode cX7_children 14 = .ok (.invokevirtual 62, 3) := by decide +kernel
theorem dX7_children_17 : decode cX7_children 17 = .ok (.ifCond .eq 7, 3) := by decide +kernel
theorem dX7_children_20 : decode cX7_children 20 = .ok (.iconst 1, 1) := by decide +kernel
theorem dX7_children_21 : decode cX7_children 21 = .ok (.goto 4, 3) := by decide +kernel
theorem dX7_children_24 : decode cX7_children 24 = .ok (.iconst 0, 1) := by decide +kernel
theorem dX7_children_25 : decode cX7_children 25 = .ok (.iadd, 1) := by decide +kernel
theorem dX7_children_26 : decode cX7_children 26 = .ok (.istore_n 2, 1) := by decide +kernel
theorem dX7_children_27 : decode cX7_children 27 = .ok (.iinc 3 1, 3) := by decide +kernel
theorem dX7_children_30 : decode cX7_children 30 = .ok (.goto (-26), 3) := by decide +kernel
theorem dX7_children_33 : decode cX7_children 33 = .ok (.iload_n 2, 1) := by decide +kernel
theorem dX7_children_34 : decode cX7_children 34 = .ok (.ireturn, 1) := by decide +kernel
theorem dX7_hangs_0 : decode cX7_hangs 0 = .ok (.aload_n 0, 1) := by decide +kernel
theorem dX7_hangs_1 : decode cX7_hangs 1 = .ok (.iload_n 1, 1) := by decide +kernel
theorem dX7_hangs_2 : decode cX7_hangs 2 = .ok (.iconst 1, 1) := by decide +kernel
theorem dX7_hangs_3 : decode cX7_hangs 3 = .ok (.iload_n 2, 1) := by decide +kernel
theorem dX7_hangs_4 : decode cX7_hangs 4 = .ok (.i2l, 1) := by decide +kernel
theorem dX7_hangs_5 : decode cX7_hangs 5 = .ok (.invokevirtual 66, 3) := by decide +kernel
theorem dX7_hangs_8 : decode cX7_hangs 8 = .ok (.aload_n 0, 1) := by decide +kernel
theorem dX7_hangs_9 : decode cX7_hangs 9 = .ok (.iload_n 1, 1) := by decide +kernel
theorem dX7_hangs_10 : decode cX7_hangs 10 = .ok (.bipush 9, 2) := by decide +kernel
theorem dX7_hangs_12 : decode cX7_hangs 12 = .ok (.aload_n 0, 1) := by decide +kernel
theorem dX7_hangs_13 : decode cX7_hangs 13 = .ok (.iload_n 2, 1) := by decide +kernel
theorem dX7_hangs_14 : decode cX7_hangs 14 = .ok (.bipush 10, 2) := by decide +kernel
theorem dX7_hangs_16 : decode cX7_hangs 16 = .ok (.invokevirtual 50, 3) := by decide +kernel
theorem dX7_hangs_19 : decode cX7_hangs 19 = .ok (.invokevirtual 66, 3) := by decide +kernel
theorem dX7_hangs_22 : decode cX7_hangs 22 = .ok (.return_, 1) := by decide +kernel
theorem dX7_comesTo_0 : decode cX7_comesTo 0 = .ok (.iconst 1, 1) := by decide +kernel
theorem dX7_comesTo_1 : decode cX7_comesTo 1 = .ok (.istore 4, 2) := by decide +kernel
theorem dX7_comesTo_3 : decode cX7_comesTo 3 = .ok (.iload 4, 2) := by decide +kernel
theorem dX7_comesTo_5 : decode cX7_comesTo 5 = .ok (.bipush 12, 2) := by decide +kernel
theorem dX7_comesTo_7 : decode cX7_comesTo 7 = .ok (.if_icmp .gt 36, 3) := by decide +kernel
theorem dX7_comesTo_10 : decode cX7_comesTo 10 = .ok (.iload_n 3, 1) := by decide +kernel
theorem dX7_comesTo_11 : decode cX7_comesTo 11 = .ok (.ifCond .eq 32, 3) := by decide +kernel
theorem dX7_comesTo_14 : decode cX7_comesTo 14 = .ok (.iload 4, 2) := by decide +kernel
theorem dX7_comesTo_16 : decode cX7_comesTo 16 = .ok (.iload_n 1, 1) := by decide +kernel
theorem dX7_comesTo_17 : decode cX7_comesTo 17 = .ok (.if_icmp .eq 20, 3) := by decide +kernel
theorem dX7_comesTo_20 : decode cX7_comesTo 20 = .ok (.aload_n 0, 1) := by decide +kernel
theorem dX7_comesTo_21 : decode cX7_comesTo 21 = .ok (.iload 4, 2) := by decide +kernel
theorem dX7_comesTo_23 : decode cX7_comesTo 23 = .ok (.iload_n 2, 1) := by decide +kernel
theorem dX7_comesTo_24 : decode cX7_comesTo 24 = .ok (.invokevirtual 62, 3) := by decide +kernel
theorem dX7_comesTo_27 : decode cX7_comesTo 27 = .ok (.ifCond .eq 10, 3) := by decide +kernel
theorem dX7_comesTo_30 : decode cX7_comesTo 30 = .ok (.aload_n 0, 1) := by decide +kernel
theorem dX7_comesTo_31 : decode cX7_comesTo 31 = .ok (.iload 4, 2) := by decide +kernel
theorem dX7_comesTo_33 : decode cX7_comesTo 33 = .ok (.iload_n 1, 1) := by decide +kernel
theorem dX7_comesTo_34 : decode cX7_comesTo 34 = .ok (.invokevirtual 70, 3) := by decide +kernel
theorem dX7_comesTo_37 : decode cX7_comesTo 37 = .ok (.iinc 4 1, 3) := by decide +kernel
theorem dX7_comesTo_40 : decode cX7_comesTo 40 = .ok (.goto (-37), 3) := by decide +kernel
theorem dX7_comesTo_43 : decode cX7_comesTo 43 = .ok (.aload_n 0, 1) := by decide +kernel
theorem dX7_comesTo_44 : decode cX7_comesTo 44 = .ok (.iload_n 1, 1) := by decide +kernel
theorem dX7_comesTo_45 : decode cX7_comesTo 45 = .ok (.iload_n 2, 1) := by decide +kernel
theorem dX7_comesTo_46 : decode cX7_comesTo 46 = .ok (.invokevirtual 70, 3) := by decide +kernel
theorem dX7_comesTo_49 : decode cX7_comesTo 49 = .ok (.return_, 1) := by decide +kernel
theorem dX7_begins_0 : decode cX7_begins 0 = .ok (.iconst 0, 1) := by decide +kernel
theorem dX7_begins_1 : decode cX7_begins 1 = .ok (.istore_n 3, 1) := by decide +kernel
theorem dX7_begins_2 : decode cX7_begins 2 = .ok (.iload_n 3, 1) := by decide +kernel
theorem dX7_begins_3 : decode cX7_begins 3 = .ok (.bipush 16, 2) := by decide +kernel
theorem dX7_begins_5 : decode cX7_begins 5 = .ok (.if_icmp .ge 16, 3) := by decide +kernel
theorem dX7_begins_8 : decode cX7_begins 8 = .ok (.aload_n 0, 1) := by decide +kernel
theorem dX7_begins_9 : decode cX7_begins 9 = .ok (.iload_n 1, 1) := by decide +kernel
theorem dX7_begins_10 : decode cX7_begins 10 = .ok (.iload_n 3, 1) := by decide +kernel
theorem dX7_begins_11 : decode cX7_begins 11 = .ok (.lconst 0, 1) := by decide +kernel
theorem dX7_begins_12 : decode cX7_begins 12 = .ok (.invokevirtual 66, 3) := by decide +kernel
theorem dX7_begins_15 : decode cX7_begins 15 = .ok (.iinc 3 1, 3) := by decide +kernel
theorem dX7_begins_18 : decode cX7_begins 18 = .ok (.goto (-16), 3) := by decide +kernel
