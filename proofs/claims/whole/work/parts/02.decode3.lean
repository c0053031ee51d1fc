theorem dX7_shares_129 : decode cX7_shares 129 = .ok (.lload 4, 2) := by decide +kernel
theorem dX7_shares_131 : decode cX7_shares 131 = .ok (.goto 4, 3) := by decide +kernel
theorem dX7_shares_134 : decode cX7_shares 134 = .ok (.lconst 1, 1) := by decide +kernel
theorem dX7_shares_135 : decode cX7_shares 135 = .ok (.lmul, 1) := by decide +kernel
theorem dX7_shares_136 : decode cX7_shares 136 = .ok (.putfield 192, 3) := by decide +kernel
theorem dX7_shares_139 : decode cX7_shares 139 = .ok (.aload_n 0, 1) := by decide +kernel
theorem dX7_shares_140 : decode cX7_shares 140 = .ok (.getfield 188, 3) := by decide +kernel
theorem dX7_shares_143 : decode cX7_shares 143 = .ok (.aload_n 0, 1) := by decide +kernel
theorem dX7_shares_144 : decode cX7_shares 144 = .ok (.getfield 192, 3) := by decide +kernel
theorem dX7_shares_147 : decode cX7_shares 147 = .ok (.invokestatic 194, 3) := by decide +kernel
theorem dX7_shares_150 : decode cX7_shares 150 = .ok (.lstore 6, 2) := by decide +kernel
theorem dX7_shares_152 : decode cX7_shares 152 = .ok (.aload_n 0, 1) := by decide +kernel
theorem dX7_shares_153 : decode cX7_shares 153 = .ok (.dup, 1) := by decide +kernel
theorem dX7_shares_154 : decode cX7_shares 154 = .ok (.getfield 188, 3) := by decide +kernel
theorem dX7_shares_157 : decode cX7_shares 157 = .ok (.lload 6, 2) := by decide +kernel
theorem dX7_shares_159 : decode cX7_shares 159 = .ok (.ldiv, 1) := by decide +kernel
theorem dX7_shares_160 : decode cX7_shares 160 = .ok (.putfield 188, 3) := by decide +kernel
theorem dX7_shares_163 : decode cX7_shares 163 = .ok (.aload_n 0, 1) := by decide +kernel
theorem dX7_shares_164 : decode cX7_shares 164 = .ok (.dup, 1) := by decide +kernel
theorem dX7_shares_165 : decode cX7_shares 165 = .ok (.getfield 192, 3) := by decide +kernel
theorem dX7_shares_168 : decode cX7_shares 168 = .ok (.lload 6, 2) := by decide +kernel
theorem dX7_shares_170 : decode cX7_shares 170 = .ok (.ldiv, 1) := by decide +kernel
theorem dX7_shares_171 : decode cX7_shares 171 = .ok (.putfield 192, 3) := by decide +kernel
theorem dX7_shares_174 : decode cX7_shares 174 = .ok (.aload_n 0, 1) := by decide +kernel
theorem dX7_shares_175 : decode cX7_shares 175 = .ok (.iload_n 3, 1) := by decide +kernel
theorem dX7_shares_176 : decode cX7_shares 176 = .ok (.invokevirtual 58, 3) := by decide +kernel
theorem dX7_shares_179 : decode cX7_shares 179 = .ok (.istore_n 3, 1) := by decide +kernel
theorem dX7_shares_180 : decode cX7_shares 180 = .ok (.goto (-158), 3) := by decide +kernel
theorem dX7_shares_183 : decode cX7_shares 183 = .ok (.return_, 1) := by decide +kernel
theorem dX7_share_0 : decode cX7_share 0 = .ok (.aload_n 0, 1) := by decide +kernel
theorem dX7_share_1 : decode cX7_share 1 = .ok (.iload_n 1, 1) := by decide +kernel
theorem dX7_share_2 : decode cX7_share 2 = .ok (.invokevirtual 54, 3) := by decide +kernel
theorem dX7_share_5 : decode cX7_share 5 = .ok (.ifCond .eq 13, 3) := by decide +kernel
theorem dX7_share_8 : decode cX7_share 8 = .ok (.iload_n 2, 1) := by decide +kernel
theorem dX7_share_9 : decode cX7_share 9 = .ok (.i2l, 1) := by decide +kernel
theorem dX7_share_10 : decode cX7_share 10 = .ok (.lconst 0, 1) := by decide +kernel
theorem dX7_share_11 : decode cX7_share 11 = .ok (.lconst 1, 1) := by decide +kernel
theorem dX7_share_12 : decode cX7_share 12 = .ok (.invokestatic 46, 3) := by decide +kernel
theorem dX7_share_15 : decode cX7_share 15 = .ok (.ifCond .ne 11, 3) := by decide +kernel
theorem dX7_share_18 : decode cX7_share 18 = .ok (.aload_n 0, 1) := by decide +kernel
theorem dX7_share_19 : decode cX7_share 19 = .ok (.bipush (-2), 2) := by decide +kernel
theorem dX7_share_21 : decode cX7_share 21 = .ok (.invokevirtual 83, 3) := by decide +kernel
theorem dX7_share_24 : decode cX7_share 24 = .ok (.i2l, 1) := by decide +kernel
theorem dX7_share_25 : decode cX7_share 25 = .ok (.lreturn, 1) := by decide +kernel
theorem dX7_share_26 : decode cX7_share 26 = .ok (.aload_n 0, 1) := by decide +kernel
theorem dX7_share_27 : decode cX7_share 27 = .ok (.iload_n 1, 1) := by decide +kernel
theorem dX7_share_28 : decode cX7_share 28 = .ok (.invokevirtual 198, 3) := by decide +kernel
theorem dX7_share_31 : decode cX7_share 31 = .ok (.iload_n 2, 1) := by decide +kernel
theorem dX7_share_32 : decode cX7_share 32 = .ok (.ifCond .ne 10, 3) := by decide +kernel
theorem dX7_share_35 : decode cX7_share 35 = .ok (.aload_n 0, 1) := by decide +kernel
theorem dX7_share_36 : decode cX7_share 36 = .ok (.getfield 188, 3) := by decide +kernel
theorem dX7_share_39 : decode cX7_share 39 = .ok (.goto 7, 3) := by decide +kernel
theorem dX7_share_42 : decode cX7_share 42 = .ok (.aload_n 0, 1) := by decide +kernel
theorem dX7_share_43 : decode cX7_share 43 = .ok (.getfield 192, 3) := by decide +kernel
theorem dX7_share_46 : decode cX7_share 46 = .ok (.lreturn, 1) := by decide +kernel
theorem dX7_allNow_0 : decode cX7_allNow 0 = .ok (.lconst 0, 1) := by decide +kernel
theorem dX7_allNow_1 : decode cX7_allNow 1 = .ok (.lstore_n 2, 1) := by decide +kernel
theorem dX7_allNow_2 : decode cX7_allNow 2 = .ok (.lconst 0, 1) := by decide +kernel
theorem dX7_allNow_3 : decode cX7_allNow 3 = .ok (.lstore 4, 2) := by decide +kernel
theorem dX7_allNow_5 : decode cX7_allNow 5 = .ok (.iconst 1, 1) := by decide +kernel
theorem dX7_allNow_6 : decode cX7_allNow 6 = .ok (.istore 6, 2) := by decide +kernel
theorem dX7_allNow_8 : decode cX7_allNow 8 = .ok (.iload 6, 2) := by decide +kernel
theorem dX7_allNow_10 : decode cX7_allNow 10 = .ok (.bipush 12, 2) := by decide +kernel
theorem dX7_allNow_12 : decode cX7_allNow 12 = .ok (.if_icmp .gt 71, 3) := by decide +kernel
theorem dX7_allNow_15 : decode cX7_allNow 15 = .ok (.lload_n 2, 1) := by decide +kernel
theorem dX7_allNow_16 : decode cX7_allNow 16 = .ok (.aload_n 0, 1) := by decide +kernel
theorem dX7_allNow_17 : decode cX7_allNow 17 = .ok (.iload 6, 2) := by decide +kernel
theorem dX7_allNow_19 : decode cX7_allNow 19 = .ok (.invokevirtual 54, 3) := by decide +kernel
theorem dX7_allNow_22 : decode cX7_allNow 22 = .ok (.ifCond .eq 14, 3) := by decide +kernel
theorem dX7_allNow_25 : decode cX7_allNow 25 = .ok (.aload_n 0, 1) := by decide +kernel
theorem dX7_allNow_26 : decode cX7_allNow 26 = .ok (.iload 6, 2) := by decide +kernel
theorem dX7_allNow_28 : decode cX7_allNow 28 = .ok (.bipush 11, 2) := by decide +kernel
theorem dX7_allNow_30 : decode cX7_allNow 30 = .ok (.invokevirtual 50, 3) := by decide +kernel
theorem dX7_allNow_33 : decode cX7_allNow 33 = .ok (.goto 4, 3) := by decide +kernel
theorem dX7_allNow_36 : decode cX7_allNow 36 = .ok (.lconst 0, 1) := by decide +kernel
theorem dX7_allNow_37 : decode cX7_allNow 37 = .ok (.ladd, 1) := by decide +kernel
theorem dX7_allNow_38 : decode cX7_allNow 38 = .ok (.lstore_n 2, 1) := by decide +kernel
theorem dX7_allNow_39 : decode cX7_allNow 39 = .ok (.aload_n 0, 1) := by decide +kernel
theorem dX7_allNow_40 : decode cX7_allNow 40 = .ok (.iload 6, 2) := by decide +kernel
theorem dX7_allNow_42 : decode cX7_allNow 42 = .ok (.invokevirtual 54, 3) := by decide +kernel
theorem dX7_allNow_45 : decode cX7_allNow 45 = .ok (.ifCond .eq 28, 3) := by decide +kernel
theorem dX7_allNow_48 : decode cX7_allNow 48 = .ok (.aload_n 0, 1) := by decide +kernel
theorem dX7_allNow_49 : decode cX7_allNow 49 = .ok (.iload 6, 2) := by decide +kernel
theorem dX7_allNow_51 : decode cX7_allNow 51 = .ok (.bipush 13, 2) := by decide +kernel
theorem dX7_allNow_53 : decode cX7_allNow 53 = .ok (.invokevirtual 50, 3) := by decide +kernel
theorem dX7_allNow_56 : decode cX7_allNow 56 = .ok (.lload 4, 2) := by decide +kernel
theorem dX7_allNow_58 : decode cX7_allNow 58 = .ok (.lcmp, 1) := by decide +kernel
theorem dX7_allNow_59 : decode cX7_allNow 59 = .ok (.ifCond .le 14, 3) := by decide +kernel
theorem dX7_allNow_62 : decode cX7_allNow 62 = .ok (.aload_n 0, 1) := by decide +kernel
theorem dX7_allNow_63 : decode cX7_allNow 63 = .ok (.iload 6, 2) := by decide +kernel
theorem dX7_allNow_65 : decode cX7_allNow 65 = .ok (.bipush 13, 2) := by decide +kernel
theorem dX7_allNow_67 : decode cX7_allNow 67 = .ok (.invokevirtual 50, 3) := by decide +kernel
theorem dX7_allNow_70 : decode cX7_allNow 70 = .ok (.goto 5, 3) := by decide +kernel
theorem dX7_allNow_73 : decode cX7_allNow 73 = .ok (.lload 4, 2) := by decide +kernel
theorem dX7_allNow_75 : decode cX7_allNow 75 = .ok (.lstore 4, 2) := by decide +kernel
theorem dX7_allNow_77 : decode cX7_allNow 77 = .ok (.iinc 6 1, 3) := by decide +kernel
theorem dX7_allNow_80 : decode cX7_allNow 80 = .ok (.goto (-72), 3) := by decide +kernel
theorem dX7_allNow_83 : decode cX7_allNow 83 = .ok (.iload_n 1, 1) := by decide +kernel
theorem dX7_allNow_84 : decode cX7_allNow 84 = .ok (.tableswitch 58 0 4 #[36, 41, 46, 51, 54], 36) := by decide +kernel
theorem dX7_allNow_120 : decode cX7_allNow 120 = .ok (.aload_n 0, 1) := by decide +kernel
theorem dX7_allNow_121 : decode cX7_allNow 121 = .ok (.invokevirtual 117, 3) := by decide +kernel
theorem dX7_allNow_124 : decode cX7_allNow 124 = .ok (.ireturn, 1) := by decide +kernel
theorem dX7_allNow_125 : decode cX7_allNow 125 = .ok (.aload_n 0, 1) := by decide +kernel
theorem dX7_allNow_126 : decode cX7_allNow 126 = .ok (.invokevirtual 173, 3) := by decide +kernel
theorem dX7_allNow_129 : decode cX7_allNow 129 = .ok (.ireturn, 1) := by decide +kernel
theorem dX7_allNow_130 : decode cX7_allNow 130 = .ok (.aload_n 0, 1) := by decide +kernel
theorem dX7_allNow_131 : decode cX7_allNow 131 = .ok (.invokevirtual 150, 3) := by decide +kernel
theorem dX7_allNow_134 : decode cX7_allNow 134 = .ok (.ireturn, 1) := by decide +kernel
theorem dX7_allNow_135 : decode cX7_allNow 135 = .ok (.lload_n 2, 1) := by decide +kernel
theorem dX7_allNow_136 : decode cX7_allNow 136 = .ok (.l2i, 1) := by decide +kernel
theorem dX7_allNow_137 : decode cX7_allNow 137 = .ok (.ireturn, 1) := by decide +kernel
theorem dX7_allNow_138 : decode cX7_allNow 138 = .ok (.lload 4, 2) := by decide +kernel
theorem dX7_allNow_140 : decode cX7_allNow 140 = .ok (.l2i, 1) := by decide +kernel
theorem dX7_allNow_141 : decode cX7_allNow 141 = .ok (.ireturn, 1) := by decide +kernel
theorem dX7_allNow_142 : decode cX7_allNow 142 = .ok (.aload_n 0, 1) := by decide +kernel
theorem dX7_allNow_143 : decode cX7_allNow 143 = .ok (.getfield 7, 3) := by decide +kernel
theorem dX7_allNow_146 : decode cX7_allNow 146 = .ok (.iload_n 1, 1) := by decide +kernel
theorem dX7_allNow_147 : decode cX7_allNow 147 = .ok (.iconst 5, 1) := by decide +kernel
theorem dX7_allNow_148 : decode cX7_allNow 148 = .ok (.if_icmp .ne 9, 3) := by decide +kernel
theorem dX7_allNow_151 : decode cX7_allNow 151 = .ok (.sipush 213, 3) := by decide +kernel
theorem dX7_allNow_154 : decode cX7_allNow 154 = .ok (.goto 6, 3) := by decide +kernel
theorem dX7_allNow_157 : decode cX7_allNow 157 = .ok (.sipush 214, 3) := by decide +kernel
theorem dX7_allNow_160 : decode cX7_allNow 160 = .ok (.laload, 1) := by decide +kernel
theorem dX7_allNow_161 : decode cX7_allNow 161 = .ok (.l2i, 1) := by decide +kernel
theorem dX7_allNow_162 : decode cX7_allNow 162 = .ok (.ireturn, 1) := by decide +kernel
theorem dX7_all_0 : decode cX7_all 0 = .ok (.iload_n 1, 1) := by decide +kernel
theorem dX7_all_1 : decode cX7_all 1 = .ok (.i2l, 1) := by decide +kernel
theorem dX7_all_2 : decode cX7_all 2 = .ok (.lconst 0, 1) := by decide +kernel
theorem dX7_all_3 : decode cX7_all 3 = .ok (.ldc2_w 201, 3) := by decide +kernel
theorem dX7_all_6 : decode cX7_all 6 = .ok (.invokestatic 46, 3) := by decide +kernel
theorem dX7_all_9 : decode cX7_all 9 = .ok (.ifCond .eq 11, 3) := by decide +kernel
theorem dX7_all_12 : decode cX7_all 12 = .ok (.aload_n 0, 1) := by decide +kernel
theorem dX7_all_13 : decode cX7_all 13 = .ok (.iload_n 1, 1) := by decide +kernel
theorem dX7_all_14 : decode cX7_all 14 = .ok (.invokevirtual 203, 3) := by decide +kernel
theorem dX7_all_17 : decode cX7_all 17 = .ok (.goto 9, 3) := by decide +kernel
theorem dX7_all_20 : decode cX7_all 20 = .ok (.aload_n 0, 1) := by decide +kernel
theorem dX7_all_21 : decode cX7_all 21 = .ok (.bipush (-2), 2) := by decide +kernel
theorem dX7_all_23 : decode cX7_all 23 = .ok (.invokevirtual 83, 3) := by decide +kernel
theorem dX7_all_26 : decode cX7_all 26 = .ok (.ireturn, 1) := by decide +kernel
theorem dX7_type_0 : decode cX7_type 0 = .ok (.iload_n 1, 1) := by decide +kernel
theorem dX7_type_1 : decode cX7_type 1 = .ok (.i2l, 1) := by decide +kernel
theorem dX7_type_2 : decode cX7_type 2 = .ok (.lconst 0, 1) := by decide +kernel
theorem dX7_type_3 : decode cX7_type 3 = .ok (.ldc2_w 206, 3) := by decide +kernel
theorem dX7_type_6 : decode cX7_type 6 = .ok (.invokestatic 46, 3) := by decide +kernel
theorem dX7_type_9 : decode cX7_type 9 = .ok (.ifCond .ne 10, 3) := by decide +kernel
theorem dX7_type_12 : decode cX7_type 12 = .ok (.aload_n 0, 1) := by decide +kernel
theorem dX7_type_13 : decode cX7_type 13 = .ok (.bipush (-2), 2) := by decide +kernel
theorem dX7_type_15 : decode cX7_type 15 = .ok (.invokevirtual 83, 3) := by decide +kernel
theorem dX7_type_18 : decode cX7_type 18 = .ok (.ireturn, 1) := by decide +kernel
theorem dX7_type_19 : decode cX7_type 19 = .ok (.aload_n 0, 1) := by decide +kernel
theorem dX7_type_20 : decode cX7_type 20 = .ok (.getfield 208, 3) := by decide +kernel
theorem dX7_type_23 : decode cX7_type 23 = .ok (.bipush 120, 2) := by decide +kernel
theorem dX7_type_25 : decode cX7_type 25 = .ok (.if_icmp .ne 10, 3) := by decide +kernel
theorem dX7_type_28 : decode cX7_type 28 = .ok (.aload_n 0, 1) := by decide +kernel
theorem dX7_type_29 : decode cX7_type 29 = .ok (.bipush (-4), 2) := by decide +kernel
theorem dX7_type_31 : decode cX7_type 31 = .ok (.invokevirtual 83, 3) := by decide +kernel
theorem dX7_type_34 : decode cX7_type 34 = .ok (.ireturn, 1) := by decide +kernel
theorem dX7_type_35 : decode cX7_type 35 = .ok (.aload_n 0, 1) := by decide +kernel
theorem dX7_type_36 : decode cX7_type 36 = .ok (.getfield 20, 3) := by decide +kernel
theorem dX7_type_39 : decode cX7_type 39 = .ok (.aload_n 0, 1) := by decide +kernel
theorem dX7_type_40 : decode cX7_type 40 = .ok (.getfield 208, 3) := by decide +kernel
theorem dX7_type_43 : decode cX7_type 43 = .ok (.iload_n 1, 1) := by decide +kernel
theorem dX7_type_44 : decode cX7_type 44 = .ok (.iastore, 1) := by decide +kernel
theorem dX7_type_45 : decode cX7_type 45 = .ok (.aload_n 0, 1) := by decide +kernel
theorem dX7_type_46 : decode cX7_type 46 = .ok (.dup, 1) := by decide +kernel
theorem dX7_type_47 : decode cX7_type 47 = .ok (.getfield 208, 3) := by decide +kernel
theorem dX7_type_50 : decode cX7_type 50 = .ok (.iconst 1, 1) := by decide +kernel
theorem dX7_type_51 : decode cX7_type 51 = .ok (.iadd, 1) := by decide +kernel
theorem dX7_type_52 : decode cX7_type 52 = .ok (.putfield 208, 3) := by decide +kernel
theorem dX7_type_55 : decode cX7_type 55 = .ok (.aload_n 0, 1) := by decide +kernel
theorem dX7_type_56 : decode cX7_type 56 = .ok (.getfield 208, 3) := by decide +kernel
theorem dX7_type_59 : decode cX7_type 59 = .ok (.ireturn, 1) := by decide +kernel
theorem dX7_clear_0 : decode cX7_clear 0 = .ok (.aload_n 0, 1) := by decide +kernel
theorem dX7_clear_1 : decode cX7_clear 1 = .ok (.getfield 208, 3) := by decide +kernel
theorem dX7_clear_4 : decode cX7_clear 4 = .ok (.istore_n 1, 1) := by decide +kernel
theorem dX7_clear_5 : decode cX7_clear 5 = .ok (.aload_n 0, 1) := by decide +kernel
theorem dX7_clear_6 : decode cX7_clear 6 = .ok (.iconst 0, 1) := by decide +kernel
theorem dX7_clear_7 : decode cX7_clear 7 = .ok (.putfield 208, 3) := by decide +kernel
theorem dX7_clear_10 : decode cX7_clear 10 = .ok (.iload_n 1, 1) := by decide +kernel
theorem dX7_clear_11 : decode cX7_clear 11 = .ok (.ireturn, 1) := by decide +kernel
theorem dX7_here_0 : decode cX7_here 0 = .ok (.aload_n 0, 1) := by decide +kernel
theorem dX7_here_1 : decode cX7_here 1 = .ok (.getfield 211, 3) := by decide +kernel
theorem dX7_here_4 : decode cX7_here 4 = .ok (.aload_n 0, 1) := by decide +kernel
theorem dX7_here_5 : decode cX7_here 5 = .ok (.getfield 208, 3) := by decide +kernel
theorem dX7_here_8 : decode cX7_here 8 = .ok (.if_icmp .ge 30, 3) := by decide +kernel
theorem dX7_here_11 : decode cX7_here 11 = .ok (.aload_n 0, 1) := by decide +kernel
theorem dX7_here_12 : decode cX7_here 12 = .ok (.getfield 20, 3) := by decide +kernel
theorem dX7_here_15 : decode cX7_here 15 = .ok (.aload_n 0, 1) := by decide +kernel
theorem dX7_here_16 : decode cX7_here 16 = .ok (.getfield 211, 3) := by decide +kernel
theorem dX7_here_19 : decode cX7_here 19 = .ok (.iaload, 1) := by decide +kernel
theorem dX7_here_20 : decode cX7_here 20 = .ok (.bipush 32, 2) := by decide +kernel
theorem dX7_here_22 : decode cX7_here 22 = .ok (.if_icmp .ne 16, 3) := by decide +kernel
theorem dX7_here_25 : decode cX7_here 25 = .ok (.aload_n 0, 1) := by decide +kernel
theorem dX7_here_26 : decode cX7_here 26 = .ok (.dup, 1) := by decide +kernel
theorem dX7_here_27 : decode cX7_here 27 = .ok (.getfield 211, 3) := by decide +kernel
theorem dX7_here_30 : decode cX7_here 30 = .ok (.iconst 1, 1) := by decide +kernel
theorem dX7_here_31 : decode cX7_here 31 = .ok (.iadd, 1) := by decide +kernel
theorem dX7_here_32 : decode cX7_here 32 = .ok (.putfield 211, 3) := by decide +kernel
theorem dX7_here_35 : decode cX7_here 35 = .ok (.goto (-35), 3) := by decide +kernel
theorem dX7_here_38 : decode cX7_here 38 = .ok (.aload_n 0, 1) := by decide +kernel
theorem dX7_here_39 : decode cX7_here 39 = .ok (.getfield 211, 3) := by decide +kernel
theorem dX7_here_42 : decode cX7_here 42 = .ok (.aload_n 0, 1) := by decide +kernel
theorem dX7_here_43 : decode cX7_here 43 = .ok (.getfield 208, 3) := by decide +kernel
theorem dX7_here_46 : decode cX7_here 46 = .ok (.if_icmp .ge 15, 3) := by decide +kernel
theorem dX7_here_49 : decode cX7_here 49 = .ok (.aload_n 0, 1) := by decide +kernel
theorem dX7_here_50 : decode cX7_here 50 = .ok (.getfield 20, 3) := by decide +kernel
theorem dX7_here_53 : decode cX7_here 53 = .ok (.aload_n 0, 1) := by decide +kernel
theorem dX7_here_54 : decode cX7_here 54 = .ok (.getfield 211, 3) := by decide +kernel
theorem dX7_here_57 : decode cX7_here 57 = .ok (.iaload, 1) := by decide +kernel
theorem dX7_here_58 : decode cX7_here 58 = .ok (.goto 4, 3) := by decide +kernel
theorem dX7_here_61 : decode cX7_here 61 = .ok (.iconst (-1), 1) := by decide +kernel
theorem dX7_here_62 : decode cX7_here 62 = .ok (.ireturn, 1) := by decide +kernel
theorem dX7_isFigure_0 : decode cX7_isFigure 0 = .ok (.iload_n 1, 1) := by decide +kernel
theorem dX7_isFigure_1 : decode cX7_isFigure 1 = .ok (.aload_n 0, 1) := by decide +kernel
theorem dX7_isFigure_2 : decode cX7_isFigure 2 = .ok (.getfield 208, 3) := by decide +kernel
theorem dX7_isFigure_5 : decode cX7_isFigure 5 = .ok (.if_icmp .ge 26, 3) := by decide +kernel
theorem dX7_isFigure_8 : decode cX7_isFigure 8 = .ok (.aload_n 0, 1) := by decide +kernel
theorem dX7_isFigure_9 : decode cX7_isFigure 9 = .ok (.getfield 20, 3) := by decide +kernel
theorem dX7_isFigure_12 : decode cX7_isFigure 12 = .ok (.iload_n 1, 1) := by decide +kernel
theorem dX7_isFigure_13 : decode cX7_isFigure 13 = .ok (.iaload, 1) := by decide +kernel
theorem dX7_isFigure_14 : decode cX7_isFigure 14 = .ok (.i2l, 1) := by decide +kernel
theorem dX7_isFigure_15 : decode cX7_isFigure 15 = .ok (.ldc2_w 214, 3) := by decide +kernel
theorem dX7_isFigure_18 : decode cX7_isFigure 18 = .ok (.ldc2_w 216, 3) := by decide +kernel
theorem dX7_isFigure_21 : decode cX7_isFigure 21 = .ok (.invokestatic 46, 3) := by decide +kernel
theorem dX7_isFigure_24 : decode cX7_isFigure 24 = .ok (.ifCond .eq 7, 3) := by decide +kernel
theorem dX7_isFigure_27 : decode cX7_isFigure 27 = .ok (.iconst 1, 1) := by decide +kernel
theorem dX7_isFigure_28 : decode cX7_isFigure 28 = .ok (.goto 4, 3) := by decide +kernel
theorem dX7_isFigure_31 : decode cX7_isFigure 31 = .ok (.iconst 0, 1) := by decide +kernel
theorem dX7_isFigure_32 : decode cX7_isFigure 32 = .ok (.ireturn, 1) := by decide +kernel
theorem dX7_takes_0 : decode cX7_takes 0 = .ok (.aload_n 0, 1) := by decide +kernel
theorem dX7_takes_1 : decode cX7_takes 1 = .ok (.invokevirtual 218, 3) := by decide +kernel
theorem dX7_takes_4 : decode cX7_takes 4 = .ok (.istore_n 2, 1) := by decide +kernel
theorem dX7_takes_5 : decode cX7_takes 5 = .ok (.aload_n 0, 1) := by decide +kernel
theorem dX7_takes_6 : decode cX7_takes 6 = .ok (.getfield 211, 3) := by decide +kernel
theorem dX7_takes_9 : decode cX7_takes 9 = .ok (.istore_n 3, 1) := by decide +kernel
theorem dX7_takes_10 : decode cX7_takes 10 = .ok (.iconst 0, 1) := by decide +kernel
theorem dX7_takes_11 : decode cX7_takes 11 = .ok (.istore 4, 2) := by decide +kernel
theorem dX7_takes_13 : decode cX7_takes 13 = .ok (.aload_n 0, 1) := by decide +kernel
theorem dX7_takes_14 : decode cX7_takes 14 = .ok (.iconst 0, 1) := by decide +kernel
theorem dX7_takes_15 : decode cX7_takes 15 = .ok (.putfield 221, 3) := by decide +kernel
theorem dX7_takes_18 : decode cX7_takes 18 = .ok (.aload_n 0, 1) := by decide +kernel
theorem dX7_takes_19 : decode cX7_takes 19 = .ok (.aload_n 0, 1) := by decide +kernel
theorem dX7_takes_20 : decode cX7_takes 20 = .ok (.getfield 211, 3) := by decide +kernel
theorem dX7_takes_23 : decode cX7_takes 23 = .ok (.invokevirtual 224, 3) := by decide +kernel
theorem dX7_takes_26 : decode cX7_takes 26 = .ok (.ifCond .eq 49, 3) := by decide +kernel
theorem dX7_takes_29 : decode cX7_takes 29 = .ok (.iload 4, 2) := by decide +kernel
theorem dX7_takes_31 : decode cX7_takes 31 = .ok (.iconst 2, 1) := by decide +kernel
theorem dX7_takes_32 : decode cX7_takes 32 = .ok (.if_icmp .ge 43, 3) := by decide +kernel
theorem dX7_takes_35 : decode cX7_takes 35 = .ok (.aload_n 0, 1) := by decide +kernel
theorem dX7_takes_36 : decode cX7_takes 36 = .ok (.bipush 10, 2) := by decide +kernel
theorem dX7_takes_38 : decode cX7_takes 38 = .ok (.aload_n 0, 1) := by decide +kernel
theorem dX7_takes_39 : decode cX7_takes 39 = .ok (.getfield 221, 3) := by decide +kernel
theorem dX7_takes_42 : decode cX7_takes 42 = .ok (.imul, 1) := by decide +kernel
theorem dX7_takes_43 : decode cX7_takes 43 = .ok (.aload_n 0, 1) := by decide +kernel
theorem dX7_takes_44 : decode cX7_takes 44 = .ok (.getfield 20, 3) := by decide +kernel
theorem dX7_takes_47 : decode cX7_takes 47 = .ok (.aload_n 0, 1) := by decide +kernel
theorem dX7_takes_48 : decode cX7_takes 48 = .ok (.getfield 211, 3) := by decide +kernel
theorem dX7_takes_51 : decode cX7_takes 51 = .ok (.iaload, 1) := by decide +kernel
theorem dX7_takes_52 : decode cX7_takes 52 = .ok (.iadd, 1) := by decide +kernel
theorem dX7_takes_53 : decode cX7_takes 53 = .ok (.bipush 48, 2) := by decide +kernel
theorem dX7_takes_55 : decode cX7_takes 55 = .ok (.isub, 1) := by decide +kernel
theorem dX7_takes_56 : decode cX7_takes 56 = .ok (.putfield 221, 3) := by decide +kernel
theorem dX7_takes_59 : decode cX7_takes 59 = .ok (.aload_n 0, 1) := by decide +kernel
theorem dX7_takes_60 : decode cX7_takes 60 = .ok (.dup, 1) := by decide +kernel
theorem dX7_takes_61 : decode cX7_takes 61 = .ok (.getfield 211, 3) := by decide +kernel
theorem dX7_takes_64 : decode cX7_takes 64 = .ok (.iconst 1, 1) := by decide +kernel
theorem dX7_takes_65 : decode cX7_takes 65 = .ok (.iadd, 1) := by decide +kernel
theorem dX7_takes_66 : decode cX7_takes 66 = .ok (.putfield 211, 3) := by decide +kernel
theorem dX7_takes_69 : decode cX7_takes 69 = .ok (.iinc 4 1, 3) := by decide +kernel
theorem dX7_takes_72 : decode cX7_takes 72 = .ok (.goto (-54), 3) := by decide +kernel
theorem dX7_takes_75 : decode cX7_takes 75 = .ok (.iload_n 2, 1) := by decide +kernel
theorem dX7_takes_76 : decode cX7_takes 76 = .ok (.iconst (-1), 1) := by decide +kernel
theorem dX7_takes_77 : decode cX7_takes 77 = .ok (.if_icmp .eq 19, 3) := by decide +kernel
theorem dX7_takes_80 : decode cX7_takes 80 = .ok (.iload 4, 2) := by decide +kernel
theorem dX7_takes_82 : decode cX7_takes 82 = .ok (.ifCond .eq 14, 3) := by decide +kernel
theorem dX7_takes_85 : decode cX7_takes 85 = .ok (.aload_n 0, 1) := by decide +kernel
theorem dX7_takes_86 : decode cX7_takes 86 = .ok (.aload_n 0, 1) := by decide +kernel
theorem dX7_takes_87 : decode cX7_takes 87 = .ok (.getfield 211, 3) := by decide +kernel
theorem dX7_takes_90 : decode cX7_takes 90 = .ok (.invokevirtual 224, 3) := by decide +kernel
theorem dX7_takes_93 : decode cX7_takes 93 = .ok (.ifCond .eq 5, 3) := by decide +kernel
theorem dX7_takes_96 : decode cX7_takes 96 = .ok (.iconst 0, 1) := by decide +kernel
theorem dX7_takes_97 : decode cX7_takes 97 = .ok (.ireturn, 1) := by decide +kernel
theorem dX7_takes_98 : decode cX7_takes 98 = .ok (.aload_n 0, 1) := by decide +kernel
theorem dX7_takes_99 : decode cX7_takes 99 = .ok (.getfield 221, 3) := by decide +kernel
theorem dX7_takes_102 : decode cX7_takes 102 = .ok (.i2l, 1) := by decide +kernel
theorem dX7_takes_103 : decode cX7_takes 103 = .ok (.lconst 1, 1) := by decide +kernel
theorem dX7_takes_104 : decode cX7_takes 104 = .ok (.iload_n 1, 1) := by decide +kernel
theorem dX7_takes_105 : decode cX7_takes 105 = .ok (.i2l, 1) := by decide +kernel
theorem dX7_takes_106 : decode cX7_takes 106 = .ok (.invokestatic 46, 3) := by decide +kernel
theorem dX7_takes_109 : decode cX7_takes 109 = .ok (.ifCond .ne 10, 3) := by decide +kernel
theorem dX7_takes_112 : decode cX7_takes 112 = .ok (.aload_n 0, 1) := by decide +kernel
theorem dX7_takes_113 : decode cX7_takes 113 = .ok (.iload_n 3, 1) := by decide +kernel
theorem dX7_takes_114 : decode cX7_takes 114 = .ok (.putfield 211, 3) := by decide +kernel
theorem dX7_takes_117 : decode cX7_takes 117 = .ok (.iconst 0, 1) := by decide +kernel
theorem dX7_takes_118 : decode cX7_takes 118 = .ok (.ireturn, 1) := by decide +kernel
theorem dX7_takes_119 : decode cX7_takes 119 = .ok (.iconst 1, 1) := by decide +kernel
theorem dX7_takes_120 : decode cX7_takes 120 = .ok (.ireturn, 1) := by decide +kernel
theorem dX7_takesStream_0 : decode cX7_takesStream 0 = .ok (.aload_n 0, 1) := by decide +kernel
theorem dX7_takesStream_1 : decode cX7_takesStream 1 = .ok (.invokevirtual 218, 3) := by decide +kernel
theorem dX7_takesStream_4 : decode cX7_takesStream 4 = .ok (.istore_n 2, 1) := by decide +kernel
theorem dX7_takesStream_5 : decode cX7_takesStream 5 = .ok (.aload_n 0, 1) := by decide +kernel
theorem dX7_takesStream_6 : decode cX7_takesStream 6 = .ok (.getfield 211, 3) := by decide +kernel
theorem dX7_takesStream_9 : decode cX7_takesStream 9 = .ok (.istore_n 3, 1) := by decide +kernel
theorem dX7_takesStream_10 : decode cX7_takesStream 10 = .ok (.aload_n 0, 1) := by decide +kernel
theorem dX7_takesStream_11 : decode cX7_takesStream 11 = .ok (.bipush 12, 2) := by decide +kernel
theorem dX7_takesStream_13 : decode cX7_takesStream 13 = .ok (.invokevirtual 227, 3) := by decide +kernel
theorem dX7_takesStream_16 : decode cX7_takesStream 16 = .ok (.ifCond .ne 5, 3) := by decide +kernel
theorem dX7_takesStream_19 : decode cX7_takesStream 19 = .ok (.iconst 0, 1) := by decide +kernel
theorem dX7_takesStream_20 : decode cX7_takesStream 20 = .ok (.ireturn, 1) := by decide +kernel
theorem dX7_takesStream_21 : decode cX7_takesStream 21 = .ok (.iconst 0, 1) := by decide +kernel
theorem dX7_takesStream_22 : decode cX7_takesStream 22 = .ok (.istore 4, 2) := by decide +kernel
theorem dX7_takesStream_24 : decode cX7_takesStream 24 = .ok (.iload 4, 2) := by decide +kernel
theorem dX7_takesStream_26 : decode cX7_takesStream 26 = .ok (.aload_n 0, 1) := by decide +kernel
theorem dX7_takesStream_27 : decode cX7_takesStream 27 = .ok (.getfield 230, 3) := by decide +kernel
theorem dX7_takesStream_30 : decode cX7_takesStream 30 = .ok (.if_icmp .ge 30, 3) := by decide +kernel
theorem dX7_takesStream_33 : decode cX7_takesStream 33 = .ok (.aload_n 0, 1) := by decide +kernel
theorem dX7_takesStream_34 : decode cX7_takesStream 34 = .ok (.getfield 23, 3) := by decide +kernel
theorem dX7_takesStream_37 : decode cX7_takesStream 37 = .ok (.iload 4, 2) := by decide +kernel
theorem dX7_takesStream_39 : decode cX7_takesStream 39 = .ok (.iaload, 1) := by decide +kernel
theorem dX7_takesStream_40 : decode cX7_takesStream 40 = .ok (.aload_n 0, 1) := by decide +kernel
theorem dX7_takesStream_41 : decode cX7_takesStream 41 = .ok (.getfield 221, 3) := by decide +kernel
theorem dX7_takesStream_44 : decode cX7_takesStream 44 = .ok (.if_icmp .ne 10, 3) := by decide +kernel
theorem dX7_takesStream_47 : decode cX7_takesStream 47 = .ok (.aload_n 0, 1) := by decide +kernel
theorem dX7_takesStream_48 : decode cX7_takesStream 48 = .ok (.iload_n 3, 1) := by decide +kernel
theorem dX7_takesStream_49 : decode cX7_takesStream 49 = .ok (.putfield 211, 3) := by decide +kernel
theorem dX7_takesStream_52 : decode cX7_takesStream 52 = .ok (.iconst 0, 1) := by decide +kernel
theorem dX7_takesStream_53 : decode cX7_takesStream 53 = .ok (.ireturn, 1) := by decide +kernel
theorem dX7_takesStream_54 : decode cX7_takesStream 54 = .ok (.iinc 4 1, 3) := by decide +kernel
theorem dX7_takesStream_57 : decode cX7_takesStream 57 = .ok (.goto (-33), 3) := by decide +kernel
theorem dX7_takesStream_60 : decode cX7_takesStream 60 = .ok (.aload_n 0, 1) := by decide +kernel
theorem dX7_takesStream_61 : decode cX7_takesStream 61 = .ok (.getfield 23, 3) := by decide +kernel
theorem dX7_takesStream_64 : decode cX7_takesStream 64 = .ok (.aload_n 0, 1) := by decide +kernel
theorem dX7_takesStream_65 : decode cX7_takesStream 65 = .ok (.getfield 230, 3) := by decide +kernel
theorem dX7_takesStream_68 : decode cX7_takesStream 68 = .ok (.aload_n 0, 1) := by decide +kernel
theorem dX7_takesStream_69 : decode cX7_takesStream 69 = .ok (.getfield 221, 3) := by decide +kernel
theorem dX7_takesStream_72 : decode cX7_takesStream 72 = .ok (.iastore, 1) := by decide +kernel
theorem dX7_takesStream_73 : decode cX7_takesStream 73 = .ok (.aload_n 0, 1) := by decide +kernel
theorem dX7_takesStream_74 : decode cX7_takesStream 74 = .ok (.getfield 29, 3) := by decide +kernel
theorem dX7_takesStream_77 : decode cX7_takesStream 77 = .ok (.aload_n 0, 1) := by decide +kernel
theorem dX7_takesStream_78 : decode cX7_takesStream 78 = .ok (.getfield 230, 3) := by decide +kernel
theorem dX7_takesStream_81 : decode cX7_takesStream 81 = .ok (.iload_n 1, 1) := by decide +kernel
theorem dX7_takesStream_82 : decode cX7_takesStream 82 = .ok (.iastore, 1) := by decide +kernel
theorem dX7_takesStream_83 : decode cX7_takesStream 83 = .ok (.aload_n 0, 1) := by decide +kernel
theorem dX7_takesStream_84 : decode cX7_takesStream 84 = .ok (.invokevirtual 218, 3) := by decide +kernel
theorem dX7_takesStream_87 : decode cX7_takesStream 87 = .ok (.bipush 58, 2) := by decide +kernel
theorem dX7_takesStream_89 : decode cX7_takesStream 89 = .ok (.if_icmp .eq 5, 3) := by decide +kernel
theorem dX7_takesStream_92 : decode cX7_takesStream 92 = .ok (.iconst 0, 1) := by decide +kernel
theorem dX7_takesStream_93 : decode cX7_takesStream 93 = .ok (.ireturn, 1) := by decide +kernel
theorem dX7_takesStream_94 : decode cX7_takesStream 94 = .ok (.aload_n 0, 1) := by decide +kernel
theorem dX7_takesStream_95 : decode cX7_takesStream 95 = .ok (.dup, 1) := by decide +kernel
theorem dX7_takesStream_96 : decode cX7_takesStream 96 = .ok (.getfield 211, 3) := by decide +kernel
theorem dX7_takesStream_99 : decode cX7_takesStream 99 = .ok (.iconst 1, 1) := by decide +kernel
theorem dX7_takesStream_100 : decode cX7_takesStream 100 = .ok (.iadd, 1) := by decide +kernel
theorem dX7_takesStream_101 : decode cX7_takesStream 101 = .ok (.putfield 211, 3) := by decide +kernel
theorem dX7_takesStream_104 : decode cX7_takesStream 104 = .ok (.aload_n 0, 1) := by decide +kernel
theorem dX7_takesStream_105 : decode cX7_takesStream 105 = .ok (.bipush 16, 2) := by decide +kernel
theorem dX7_takesStream_107 : decode cX7_takesStream 107 = .ok (.invokevirtual 227, 3) := by decide +kernel
theorem dX7_takesStream_110 : decode cX7_takesStream 110 = .ok (.ifCond .ne 5, 3) := by decide +kernel
theorem dX7_takesStream_113 : decode cX7_takesStream 113 = .ok (.iconst 0, 1) := by decide +kernel
theorem dX7_takesStream_114 : decode cX7_takesStream 114 = .ok (.ireturn, 1) := by decide +kernel
theorem dX7_takesStream_115 : decode cX7_takesStream 115 = .ok (.aload_n 0, 1) := by decide +kernel
theorem dX7_takesStream_116 : decode cX7_takesStream 116 = .ok (.getfield 26, 3) := by decide +kernel
theorem dX7_takesStream_119 : decode cX7_takesStream 119 = .ok (.aload_n 0, 1) := by decide +kernel
theorem dX7_takesStream_120 : decode cX7_takesStream 120 = .ok (.getfield 230, 3) := by decide +kernel
theorem dX7_takesStream_123 : decode cX7_takesStream 123 = .ok (.aload_n 0, 1) := by decide +kernel
theorem dX7_takesStream_124 : decode cX7_takesStream 124 = .ok (.getfield 221, 3) := by decide +kernel
theorem dX7_takesStream_127 : decode cX7_takesStream 127 = .ok (.iastore, 1) := by decide +kernel
theorem dX7_takesStream_128 : decode cX7_takesStream 128 = .ok (.aload_n 0, 1) := by decide +kernel
theorem dX7_takesStream_129 : decode cX7_takesStream 129 = .ok (.dup, 1) := by decide +kernel
theorem dX7_takesStream_130 : decode cX7_takesStream 130 = .ok (.getfield 230, 3) := by decide +kernel
theorem dX7_takesStream_133 : decode cX7_takesStream 133 = .ok (.iconst 1, 1) := by decide +kernel
theorem dX7_takesStream_134 : decode cX7_takesStream 134 = .ok (.iadd, 1) := by decide +kernel
theorem dX7_takesStream_135 : decode cX7_takesStream 135 = .ok (.putfield 230, 3) := by decide +kernel
theorem dX7_takesStream_138 : decode cX7_takesStream 138 = .ok (.iconst 1, 1) := by decide +kernel
theorem dX7_takesStream_139 : decode cX7_takesStream 139 = .ok (.ireturn, 1) := by decide +kernel
theorem dX7_standsIn_0 : decode cX7_standsIn 0 = .ok (.iconst 0, 1) := by decide +kernel
theorem dX7_standsIn_1 : decode cX7_standsIn 1 = .ok (.istore_n 2, 1) := by decide +kernel
theorem dX7_standsIn_2 : decode cX7_standsIn 2 = .ok (.iconst 0, 1) := by decide +kernel
theorem dX7_standsIn_3 : decode cX7_standsIn 3 = .ok (.istore_n 3, 1) := by decide +kernel
theorem dX7_standsIn_4 : decode cX7_standsIn 4 = .ok (.iload_n 3, 1) := by decide +kernel
theorem dX7_standsIn_5 : decode cX7_standsIn 5 = .ok (.aload_n 0, 1) := by decide +kernel
theorem dX7_standsIn_6 : decode cX7_standsIn 6 = .ok (.getfield 230, 3) := by decide +kernel
theorem dX7_standsIn_9 : decode cX7_standsIn 9 = .ok (.if_icmp .ge 30, 3) := by decide +kernel
theorem dX7_standsIn_12 : decode cX7_standsIn 12 = .ok (.aload_n 0, 1) := by decide +kernel
theorem dX7_standsIn_13 : decode cX7_standsIn 13 = .ok (.getfield 23, 3) := by decide +kernel
theorem dX7_standsIn_16 : decode cX7_standsIn 16 = .ok (.iload_n 3, 1) := by decide +kernel
theorem dX7_standsIn_17 : decode cX7_standsIn 17 = .ok (.iaload, 1) := by decide +kernel
theorem dX7_standsIn_18 : decode cX7_standsIn 18 = .ok (.iload_n 1, 1) := by decide +kernel
theorem dX7_standsIn_19 : decode cX7_standsIn 19 = .ok (.if_icmp .ne 12, 3) := by decide +kernel
theorem dX7_standsIn_22 : decode cX7_standsIn 22 = .ok (.aload_n 0, 1) := by decide +kernel
theorem dX7_standsIn_23 : decode cX7_standsIn 23 = .ok (.getfield 29, 3) := by decide +kernel
theorem dX7_standsIn_26 : decode cX7_standsIn 26 = .ok (.iload_n 3, 1) := by decide +kernel
theorem dX7_standsIn_27 : decode cX7_standsIn 27 = .ok (.iaload, 1) := by decide +kernel
theorem dX7_standsIn_28 : decode cX7_standsIn 28 = .ok (.goto 4, 3) := by decide +kernel
theorem dX7_standsIn_31 : decode cX7_standsIn 31 = .ok (.iload_n 2, 1) := by decide +kernel
theorem dX7_standsIn_32 : decode cX7_standsIn 32 = .ok (.istore_n 2, 1) := by decide +kernel
theorem dX7_standsIn_33 : decode cX7_standsIn 33 = .ok (.iinc 3 1, 3) := by decide +kernel
theorem dX7_standsIn_36 : decode cX7_standsIn 36 = .ok (.goto (-32), 3) := by decide +kernel
theorem dX7_standsIn_39 : decode cX7_standsIn 39 = .ok (.iload_n 2, 1) := by decide +kernel
theorem dX7_standsIn_40 : decode cX7_standsIn 40 = .ok (.ireturn, 1) := by decide +kernel
theorem dX7_isRead_0 : decode cX7_isRead 0 = .ok (.iconst 0, 1) := by decide +kernel
theorem dX7_isRead_1 : decode cX7_isRead 1 = .ok (.istore_n 1, 1) := by decide +kernel
theorem dX7_isRead_2 : decode cX7_isRead 2 = .ok (.aload_n 0, 1) := by decide +kernel
theorem dX7_isRead_3 : decode cX7_isRead 3 = .ok (.iconst 0, 1) := by decide +kernel
theorem dX7_isRead_4 : decode cX7_isRead 4 = .ok (.putfield 230, 3) := by decide +kernel
theorem dX7_isRead_7 : decode cX7_isRead 7 = .ok (.aload_n 0, 1) := by decide +kernel
theorem dX7_isRead_8 : decode cX7_isRead 8 = .ok (.iconst 0, 1) := by decide +kernel
theorem dX7_isRead_9 : decode cX7_isRead 9 = .ok (.putfield 211, 3) := by decide +kernel
theorem dX7_isRead_12 : decode cX7_isRead 12 = .ok (.iconst 0, 1) := by decide +kernel
theorem dX7_isRead_13 : decode cX7_isRead 13 = .ok (.istore_n 2, 1) := by decide +kernel
theorem dX7_isRead_14 : decode cX7_isRead 14 = .ok (.iload_n 2, 1) := by decide +kernel
theorem dX7_isRead_15 : decode cX7_isRead 15 = .ok (.ifCond .ne 11, 3) := by decide +kernel
theorem dX7_isRead_18 : decode cX7_isRead 18 = .ok (.aload_n 0, 1) := by decide +kernel
theorem dX7_isRead_19 : decode cX7_isRead 19 = .ok (.invokevirtual 218, 3) := by decide +kernel
theorem dX7_isRead_22 : decode cX7_isRead 22 = .ok (.iconst (-1), 1) := by decide +kernel
theorem dX7_isRead_23 : decode cX7_isRead 23 = .ok (.if_icmp .eq 93, 3) := by decide +kernel
theorem dX7_isRead_26 : decode cX7_isRead 26 = .ok (.iload_n 2, 1) := by decide +kernel
theorem dX7_isRead_27 : decode cX7_isRead 27 = .ok (.ifCond .ne 35, 3) := by decide +kernel
theorem dX7_isRead_30 : decode cX7_isRead 30 = .ok (.iload_n 1, 1) := by decide +kernel
theorem dX7_isRead_31 : decode cX7_isRead 31 = .ok (.ifCond .eq 31, 3) := by decide +kernel
theorem dX7_isRead_34 : decode cX7_isRead 34 = .ok (.aload_n 0, 1) := by decide +kernel
theorem dX7_isRead_35 : decode cX7_isRead 35 = .ok (.invokevirtual 218, 3) := by decide +kernel
theorem dX7_isRead_38 : decode cX7_isRead 38 = .ok (.bipush 41, 2) := by decide +kernel
theorem dX7_isRead_40 : decode cX7_isRead 40 = .ok (.if_icmp .ne 22, 3) := by decide +kernel
theorem dX7_isRead_43 : decode cX7_isRead 43 = .ok (.aload_n 0, 1) := by decide +kernel
theorem dX7_isRead_44 : decode cX7_isRead 44 = .ok (.dup, 1) := by decide +kernel
theorem dX7_isRead_45 : decode cX7_isRead 45 = .ok (.getfield 211, 3) := by decide +kernel
theorem dX7_isRead_48 : decode cX7_isRead 48 = .ok (.iconst 1, 1) := by decide +kernel
theorem dX7_isRead_49 : decode cX7_isRead 49 = .ok (.iadd, 1) := by decide +kernel
theorem dX7_isRead_50 : decode cX7_isRead 50 = .ok (.putfield 211, 3) := by decide +kernel
theorem dX7_isRead_53 : decode cX7_isRead 53 = .ok (.aload_n 0, 1) := by decide +kernel
theorem dX7_isRead_54 : decode cX7_isRead 54 = .ok (.iload_n 1, 1) := by decide +kernel
theorem dX7_isRead_55 : decode cX7_isRead 55 = .ok (.invokevirtual 233, 3) := by decide +kernel
theorem dX7_isRead_58 : decode cX7_isRead 58 = .ok (.istore_n 1, 1) := by decide +kernel
theorem dX7_isRead_59 : decode cX7_isRead 59 = .ok (.goto (-45), 3) := by decide +kernel
theorem dX7_isRead_62 : decode cX7_isRead 62 = .ok (.aload_n 0, 1) := by decide +kernel
theorem dX7_isRead_63 : decode cX7_isRead 63 = .ok (.iload_n 1, 1) := by decide +kernel
theorem dX7_isRead_64 : decode cX7_isRead 64 = .ok (.invokevirtual 236, 3) := by decide +kernel
theorem dX7_isRead_67 : decode cX7_isRead 67 = .ok (.ifCond .ne 5, 3) := by decide +kernel
theorem dX7_isRead_70 : decode cX7_isRead 70 = .ok (.iconst 0, 1) := by decide +kernel
theorem dX7_isRead_71 : decode cX7_isRead 71 = .ok (.ireturn, 1) := by decide +kernel
theorem dX7_isRead_72 : decode cX7_isRead 72 = .ok (.aload_n 0, 1) := by decide +kernel
theorem dX7_isRead_73 : decode cX7_isRead 73 = .ok (.invokevirtual 218, 3) := by decide +kernel
theorem dX7_isRead_76 : decode cX7_isRead 76 = .ok (.bipush 40, 2) := by decide +kernel
theorem dX7_isRead_78 : decode cX7_isRead 78 = .ok (.if_icmp .ne 7, 3) := by decide +kernel
theorem dX7_isRead_81 : decode cX7_isRead 81 = .ok (.iconst 1, 1) := by decide +kernel
theorem dX7_isRead_82 : decode cX7_isRead 82 = .ok (.goto 4, 3) := by decide +kernel
theorem dX7_isRead_85 : decode cX7_isRead 85 = .ok (.iconst 0, 1) := by decide +kernel
theorem dX7_isRead_86 : decode cX7_isRead 86 = .ok (.istore_n 2, 1) := by decide +kernel
theorem dX7_isRead_87 : decode cX7_isRead 87 = .ok (.iload_n 2, 1) := by decide +kernel
theorem dX7_isRead_88 : decode cX7_isRead 88 = .ok (.ifCond .eq (-74), 3) := by decide +kernel
theorem dX7_isRead_91 : decode cX7_isRead 91 = .ok (.aload_n 0, 1) := by decide +kernel
theorem dX7_isRead_92 : decode cX7_isRead 92 = .ok (.dup, 1) := by decide +kernel
theorem dX7_isRead_93 : decode cX7_isRead 93 = .ok (.getfield 211, 3) := by decide +kernel
theorem dX7_isRead_96 : decode cX7_isRead 96 = .ok (.iconst 1, 1) := by decide +kernel
theorem dX7_isRead_97 : decode cX7_isRead 97 = .ok (.iadd, 1) := by decide +kernel
theorem dX7_isRead_98 : decode cX7_isRead 98 = .ok (.putfield 211, 3) := by decide +kernel
theorem dX7_isRead_101 : decode cX7_isRead 101 = .ok (.aload_n 0, 1) := by decide +kernel
theorem dX7_isRead_102 : decode cX7_isRead 102 = .ok (.getfield 23, 3) := by decide +kernel
theorem dX7_isRead_105 : decode cX7_isRead 105 = .ok (.aload_n 0, 1) := by decide +kernel
theorem dX7_isRead_106 : decode cX7_isRead 106 = .ok (.getfield 230, 3) := by decide +kernel
theorem dX7_isRead_109 : decode cX7_isRead 109 = .ok (.iconst 1, 1) := by decide +kernel
theorem dX7_isRead_110 : decode cX7_isRead 110 = .ok (.isub, 1) := by decide +kernel
theorem dX7_isRead_111 : decode cX7_isRead 111 = .ok (.iaload, 1) := by decide +kernel
theorem dX7_isRead_112 : decode cX7_isRead 112 = .ok (.istore_n 1, 1) := by decide +kernel
theorem dX7_isRead_113 : decode cX7_isRead 113 = .ok (.goto (-99), 3) := by decide +kernel
theorem dX7_isRead_116 : decode cX7_isRead 116 = .ok (.iload_n 1, 1) := by decide +kernel
theorem dX7_isRead_117 : decode cX7_isRead 117 = .ok (.ifCond .ne 7, 3) := by decide +kernel
theorem dX7_isRead_120 : decode cX7_isRead 120 = .ok (.iconst 1, 1) := by decide +kernel
theorem dX7_isRead_121 : decode cX7_isRead 121 = .ok (.goto 4, 3) := by decide +kernel
theorem dX7_isRead_124 : decode cX7_isRead 124 = .ok (.iconst 0, 1) := by decide +kernel
theorem dX7_isRead_125 : decode cX7_isRead 125 = .ok (.ireturn, 1) := by decide +kernel
theorem dX7_builds_0 : decode cX7_builds 0 = .ok (.aload_n 0, 1) := by decide +kernel
theorem dX7_builds_1 : decode cX7_builds 1 = .ok (.invokevirtual 239, 3) := by decide +kernel
theorem dX7_builds_4 : decode cX7_builds 4 = .ok (.ifCond .ne 11, 3) := by decide +kernel
theorem dX7_builds_7 : decode cX7_builds 7 = .ok (.bipush (-10), 2) := by decide +kernel
theorem dX7_builds_9 : decode cX7_builds 9 = .ok (.aload_n 0, 1) := by decide +kernel
theorem dX7_builds_10 : decode cX7_builds 10 = .ok (.getfield 211, 3) := by decide +kernel
theorem dX7_builds_13 : decode cX7_builds 13 = .ok (.isub, 1) := by decide +kernel
theorem dX7_builds_14 : decode cX7_builds 14 = .ok (.ireturn, 1) := by decide +kernel
theorem dX7_builds_15 : decode cX7_builds 15 = .ok (.aload_n 0, 1) := by decide +kernel
theorem dX7_builds_16 : decode cX7_builds 16 = .ok (.invokevirtual 86, 3) := by decide +kernel
theorem dX7_builds_19 : decode cX7_builds 19 = .ok (.iconst 0, 1) := by decide +kernel
theorem dX7_builds_20 : decode cX7_builds 20 = .ok (.istore_n 1, 1) := by decide +kernel
theorem dX7_builds_21 : decode cX7_builds 21 = .ok (.iload_n 1, 1) := by decide +kernel
theorem dX7_builds_22 : decode cX7_builds 22 = .ok (.sipush 208, 3) := by decide +kernel
theorem dX7_builds_25 : decode cX7_builds 25 = .ok (.if_icmp .ge 16, 3) := by decide +kernel
theorem dX7_builds_28 : decode cX7_builds 28 = .ok (.aload_n 0, 1) := by decide +kernel
theorem dX7_builds_29 : decode cX7_builds 29 = .ok (.getfield 7, 3) := by decide +kernel
theorem dX7_builds_32 : decode cX7_builds 32 = .ok (.iload_n 1, 1) := by decide +kernel
theorem dX7_builds_33 : decode cX7_builds 33 = .ok (.lconst 0, 1) := by decide +kernel
theorem dX7_builds_34 : decode cX7_builds 34 = .ok (.lastore, 1) := by decide +kernel
theorem dX7_builds_35 : decode cX7_builds 35 = .ok (.iinc 1 1, 3) := by decide +kernel
theorem dX7_builds_38 : decode cX7_builds 38 = .ok (.goto (-17), 3) := by decide +kernel
theorem dX7_builds_41 : decode cX7_builds 41 = .ok (.iconst 0, 1) := by decide +kernel
theorem dX7_builds_42 : decode cX7_builds 42 = .ok (.istore_n 1, 1) := by decide +kernel
theorem dX7_builds_43 : decode cX7_builds 43 = .ok (.iload_n 1, 1) := by decide +kernel
theorem dX7_builds_44 : decode cX7_builds 44 = .ok (.aload_n 0, 1) := by decide +kernel
theorem dX7_builds_45 : decode cX7_builds 45 = .ok (.getfield 230, 3) := by decide +kernel
theorem dX7_builds_48 : decode cX7_builds 48 = .ok (.if_icmp .ge 41, 3) := by decide +kernel
theorem dX7_builds_51 : decode cX7_builds 51 = .ok (.aload_n 0, 1) := by decide +kernel
theorem dX7_builds_52 : decode cX7_builds 52 = .ok (.aload_n 0, 1) := by decide +kernel
theorem dX7_builds_53 : decode cX7_builds 53 = .ok (.getfield 23, 3) := by decide +kernel
theorem dX7_builds_56 : decode cX7_builds 56 = .ok (.iload_n 1, 1) := by decide +kernel
theorem dX7_builds_57 : decode cX7_builds 57 = .ok (.iaload, 1) := by decide +kernel
theorem dX7_builds_58 : decode cX7_builds 58 = .ok (.aload_n 0, 1) := by decide +kernel
theorem dX7_builds_59 : decode cX7_builds 59 = .ok (.getfield 26, 3) := by decide +kernel
theorem dX7_builds_62 : decode cX7_builds 62 = .ok (.iload_n 1, 1) := by decide +kernel
theorem dX7_builds_63 : decode cX7_builds 63 = .ok (.iaload, 1) := by decide +kernel
theorem dX7_builds_64 : decode cX7_builds 64 = .ok (.invokevirtual 89, 3) := by decide +kernel
theorem dX7_builds_67 : decode cX7_builds 67 = .ok (.aload_n 0, 1) := by decide +kernel
theorem dX7_builds_68 : decode cX7_builds 68 = .ok (.aload_n 0, 1) := by decide +kernel
theorem dX7_builds_69 : decode cX7_builds 69 = .ok (.getfield 23, 3) := by decide +kernel
theorem dX7_builds_72 : decode cX7_builds 72 = .ok (.iload_n 1, 1) := by decide +kernel
theorem dX7_builds_73 : decode cX7_builds 73 = .ok (.iaload, 1) := by decide +kernel
theorem dX7_builds_74 : decode cX7_builds 74 = .ok (.aload_n 0, 1) := by decide +kernel
theorem dX7_builds_75 : decode cX7_builds 75 = .ok (.getfield 29, 3) := by decide +kernel
theorem dX7_builds_78 : decode cX7_builds 78 = .ok (.iload_n 1, 1) := by decide +kernel
theorem dX7_builds_79 : decode cX7_builds 79 = .ok (.iaload, 1) := by decide +kernel
theorem dX7_builds_80 : decode cX7_builds 80 = .ok (.invokevirtual 70, 3) := by decide +kernel
theorem dX7_builds_83 : decode cX7_builds 83 = .ok (.iinc 1 1, 3) := by decide +kernel
theorem dX7_builds_86 : decode cX7_builds 86 = .ok (.goto (-43), 3) := by decide +kernel
theorem dX7_builds_89 : decode cX7_builds 89 = .ok (.aload_n 0, 1) := by decide +kernel
theorem dX7_builds_90 : decode cX7_builds 90 = .ok (.getfield 230, 3) := by decide +kernel
theorem dX7_builds_93 : decode cX7_builds 93 = .ok (.ireturn, 1) := by decide +kernel
theorem dX7_shows_0 : decode cX7_shows 0 = .ok (.aload_n 0, 1) := by decide +kernel
theorem dX7_shows_1 : decode cX7_shows 1 = .ok (.aload_n 0, 1) := by decide +kernel
theorem dX7_shows_2 : decode cX7_shows 2 = .ok (.getfield 242, 3) := by decide +kernel
theorem dX7_shows_5 : decode cX7_shows 5 = .ok (.aload_n 0, 1) := by decide +kernel
theorem dX7_shows_6 : decode cX7_shows 6 = .ok (.getfield 245, 3) := by decide +kernel
theorem dX7_shows_9 : decode cX7_shows 9 = .ok (.if_icmp .ne 7, 3) := by decide +kernel
theorem dX7_shows_12 : decode cX7_shows 12 = .ok (.iload_n 1, 1) := by decide +kernel
theorem dX7_shows_13 : decode cX7_shows 13 = .ok (.goto 7, 3) := by decide +kernel
theorem dX7_shows_16 : decode cX7_shows 16 = .ok (.aload_n 0, 1) := by decide +kernel
theorem dX7_shows_17 : decode cX7_shows 17 = .ok (.getfield 248, 3) := by decide +kernel
theorem dX7_shows_20 : decode cX7_shows 20 = .ok (.putfield 248, 3) := by decide +kernel
theorem dX7_shows_23 : decode cX7_shows 23 = .ok (.aload_n 0, 1) := by decide +kernel
theorem dX7_shows_24 : decode cX7_shows 24 = .ok (.dup, 1) := by decide +kernel
theorem dX7_shows_25 : decode cX7_shows 25 = .ok (.getfield 242, 3) := by decide +kernel
theorem dX7_shows_28 : decode cX7_shows 28 = .ok (.iconst 1, 1) := by decide +kernel
theorem dX7_shows_29 : decode cX7_shows 29 = .ok (.iadd, 1) := by decide +kernel
theorem dX7_shows_30 : decode cX7_shows 30 = .ok (.putfield 242, 3) := by decide +kernel
theorem dX7_shows_33 : decode cX7_shows 33 = .ok (.return_, 1) := by decide +kernel
theorem dX7_showsNumber_0 : decode cX7_showsNumber 0 = .ok (.iload_n 1, 1) := by decide +kernel
theorem dX7_showsNumber_1 : decode cX7_showsNumber 1 = .ok (.bipush 9, 2) := by decide +kernel
theorem dX7_showsNumber_3 : decode cX7_showsNumber 3 = .ok (.if_icmp .le 14, 3) := by decide +kernel
theorem dX7_showsNumber_6 : decode cX7_showsNumber 6 = .ok (.aload_n 0, 1) := by decide +kernel
theorem dX7_showsNumber_7 : decode cX7_showsNumber 7 = .ok (.bipush 48, 2) := by decide +kernel
theorem dX7_showsNumber_9 : decode cX7_showsNumber 9 = .ok (.iload_n 1, 1) := by decide +kernel
theorem dX7_showsNumber_10 : decode cX7_showsNumber 10 = .ok (.bipush 10, 2) := by decide +kernel
theorem dX7_showsNumber_12 : decode cX7_showsNumber 12 = .ok (.idiv, 1) := by decide +kernel
theorem dX7_showsNumber_13 : decode cX7_showsNumber 13 = .ok (.iadd, 1) := by decide +kernel
theorem dX7_showsNumber_14 : decode cX7_showsNumber 14 = .ok (.invokevirtual 251, 3) := by decide +kernel
theorem dX7_showsNumber_17 : decode cX7_showsNumber 17 = .ok (.aload_n 0, 1) := by decide +kernel
theorem dX7_showsNumber_18 : decode cX7_showsNumber 18 = .ok (.bipush 48, 2) := by decide +kernel
theorem dX7_showsNumber_20 : decode cX7_showsNumber 20 = .ok (.iload_n 1, 1) := by decide +kernel
theorem dX7_showsNumber_21 : decode cX7_showsNumber 21 = .ok (.bipush 10, 2) := by decide +kernel
theorem dX7_showsNumber_23 : decode cX7_showsNumber 23 = .ok (.irem, 1) := by decide +kernel
theorem dX7_showsNumber_24 : decode cX7_showsNumber 24 = .ok (.iadd, 1) := by decide +kernel
theorem dX7_showsNumber_25 : decode cX7_showsNumber 25 = .ok (.invokevirtual 251, 3) := by decide +kernel
theorem dX7_showsNumber_28 : decode cX7_showsNumber 28 = .ok (.return_, 1) := by decide +kernel
theorem dX7_nextChild_0 : decode cX7_nextChild 0 = .ok (.iload_n 2, 1) := by decide +kernel
theorem dX7_nextChild_1 : decode cX7_nextChild 1 = .ok (.iconst 1, 1) := by decide +kernel
theorem dX7_nextChild_2 : decode cX7_nextChild 2 = .ok (.iadd, 1) := by decide +kernel
theorem dX7_nextChild_3 : decode cX7_nextChild 3 = .ok (.istore_n 3, 1) := by decide +kernel
theorem dX7_nextChild_4 : decode cX7_nextChild 4 = .ok (.iload_n 3, 1) := by decide +kernel
theorem dX7_nextChild_5 : decode cX7_nextChild 5 = .ok (.bipush 12, 2) := by decide +kernel
theorem dX7_nextChild_7 : decode cX7_nextChild 7 = .ok (.if_icmp .gt 20, 3) := by decide +kernel
theorem dX7_nextChild_10 : decode cX7_nextChild 10 = .ok (.aload_n 0, 1) := by decide +kernel
theorem dX7_nextChild_11 : decode cX7_nextChild 11 = .ok (.iload_n 3, 1) := by decide +kernel
theorem dX7_nextChild_12 : decode cX7_nextChild 12 = .ok (.iload_n 1, 1) := by decide +kernel
theorem dX7_nextChild_13 : decode cX7_nextChild 13 = .ok (.invokevirtual 62, 3) := by decide +kernel
theorem dX7_nextChild_16 : decode cX7_nextChild 16 = .ok (.ifCond .eq 5, 3) := by decide +kernel
theorem dX7_nextChild_19 : decode cX7_nextChild 19 = .ok (.iload_n 3, 1) := by decide +kernel
theorem dX7_nextChild_20 : decode cX7_nextChild 20 = .ok (.ireturn, 1) := by decide +kernel
theorem dX7_nextChild_21 : decode cX7_nextChild 21 = .ok (.iinc 3 1, 3) := by decide +kernel
theorem dX7_nextChild_24 : decode cX7_nextChild 24 = .ok (.goto (-20), 3) := by decide +kernel
theorem dX7_nextChild_27 : decode cX7_nextChild 27 = .ok (.iconst (-1), 1) := by decide +kernel
theorem dX7_nextChild_28 : decode cX7_nextChild 28 = .ok (.ireturn, 1) := by decide +kernel
theorem dX7_showsAll_0 : decode cX7_showsAll 0 = .ok (.aload_n 0, 1) := by decide +kernel
theorem dX7_showsAll_1 : decode cX7_showsAll 1 = .ok (.iconst 0, 1) := by decide +kernel
theorem dX7_showsAll_2 : decode cX7_showsAll 2 = .ok (.iconst 0, 1) := by decide +kernel
theorem dX7_showsAll_3 : decode cX7_showsAll 3 = .ok (.invokevirtual 254, 3) := by decide +kernel
theorem dX7_showsAll_6 : decode cX7_showsAll 6 = .ok (.istore_n 1, 1) := by decide +kernel
theorem dX7_showsAll_7 : decode cX7_showsAll 7 = .ok (.iload_n 1, 1) := by decide +kernel
theorem dX7_showsAll_8 : decode cX7_showsAll 8 = .ok (.iconst (-1), 1) := by decide +kernel
theorem dX7_showsAll_9 : decode cX7_showsAll 9 = .ok (.if_icmp .eq 101, 3) := by decide +kernel
theorem dX7_showsAll_12 : decode cX7_showsAll 12 = .ok (.aload_n 0, 1) := by decide +kernel
theorem dX7_showsAll_13 : decode cX7_showsAll 13 = .ok (.iload_n 1, 1) := by decide +kernel
theorem dX7_showsAll_14 : decode cX7_showsAll 14 = .ok (.invokevirtual 257, 3) := by decide +kernel
theorem dX7_showsAll_17 : decode cX7_showsAll 17 = .ok (.aload_n 0, 1) := by decide +kernel
theorem dX7_showsAll_18 : decode cX7_showsAll 18 = .ok (.bipush 58, 2) := by decide +kernel
theorem dX7_showsAll_20 : decode cX7_showsAll 20 = .ok (.invokevirtual 251, 3) := by decide +kernel
theorem dX7_showsAll_23 : decode cX7_showsAll 23 = .ok (.aload_n 0, 1) := by decide +kernel
theorem dX7_showsAll_24 : decode cX7_showsAll 24 = .ok (.aload_n 0, 1) := by decide +kernel
theorem dX7_showsAll_25 : decode cX7_showsAll 25 = .ok (.iload_n 1, 1) := by decide +kernel
theorem dX7_showsAll_26 : decode cX7_showsAll 26 = .ok (.iconst 2, 1) := by decide +kernel
theorem dX7_showsAll_27 : decode cX7_showsAll 27 = .ok (.invokevirtual 50, 3) := by decide +kernel
theorem dX7_showsAll_30 : decode cX7_showsAll 30 = .ok (.l2i, 1) := by decide +kernel
theorem dX7_showsAll_31 : decode cX7_showsAll 31 = .ok (.invokevirtual 257, 3) := by decide +kernel
theorem dX7_showsAll_34 : decode cX7_showsAll 34 = .ok (.aload_n 0, 1) := by decide +kernel
theorem dX7_showsAll_35 : decode cX7_showsAll 35 = .ok (.iload_n 1, 1) := by decide +kernel
theorem dX7_showsAll_36 : decode cX7_showsAll 36 = .ok (.iconst 0, 1) := by decide +kernel
theorem dX7_showsAll_37 : decode cX7_showsAll 37 = .ok (.invokevirtual 254, 3) := by decide +kernel
theorem dX7_showsAll_40 : decode cX7_showsAll 40 = .ok (.istore_n 2, 1) := by decide +kernel
theorem dX7_showsAll_41 : decode cX7_showsAll 41 = .ok (.iload_n 2, 1) := by decide +kernel
theorem dX7_showsAll_42 : decode cX7_showsAll 42 = .ok (.iconst (-1), 1) := by decide +kernel
theorem dX7_showsAll_43 : decode cX7_showsAll 43 = .ok (.if_icmp .eq 9, 3) := by decide +kernel
theorem dX7_showsAll_46 : decode cX7_showsAll 46 = .ok (.aload_n 0, 1) := by decide +kernel
theorem dX7_showsAll_47 : decode cX7_showsAll 47 = .ok (.bipush 40, 2) := by decide +kernel
theorem dX7_showsAll_49 : decode cX7_showsAll 49 = .ok (.invokevirtual 251, 3) := by decide +kernel
theorem dX7_showsAll_52 : decode cX7_showsAll 52 = .ok (.iload_n 2, 1) := by decide +kernel
theorem dX7_showsAll_53 : decode cX7_showsAll 53 = .ok (.iconst (-1), 1) := by decide +kernel
theorem dX7_showsAll_54 : decode cX7_showsAll 54 = .ok (.if_icmp .ne 51, 3) := by decide +kernel
theorem dX7_showsAll_57 : decode cX7_showsAll 57 = .ok (.iload_n 1, 1) := by decide +kernel
theorem dX7_showsAll_58 : decode cX7_showsAll 58 = .ok (.ifCond .eq 47, 3) := by decide +kernel
theorem dX7_showsAll_61 : decode cX7_showsAll 61 = .ok (.aload_n 0, 1) := by decide +kernel
theorem dX7_showsAll_62 : decode cX7_showsAll 62 = .ok (.aload_n 0, 1) := by decide +kernel
theorem dX7_showsAll_63 : decode cX7_showsAll 63 = .ok (.iload_n 1, 1) := by decide +kernel
theorem dX7_showsAll_64 : decode cX7_showsAll 64 = .ok (.invokevirtual 58, 3) := by decide +kernel
theorem dX7_showsAll_67 : decode cX7_showsAll 67 = .ok (.iload_n 1, 1) := by decide +kernel
theorem dX7_showsAll_68 : decode cX7_showsAll 68 = .ok (.invokevirtual 254, 3) := by decide +kernel
theorem dX7_showsAll_71 : decode cX7_showsAll 71 = .ok (.istore_n 2, 1) := by decide +kernel
theorem dX7_showsAll_72 : decode cX7_showsAll 72 = .ok (.aload_n 0, 1) := by decide +kernel
theorem dX7_showsAll_73 : decode cX7_showsAll 73 = .ok (.iload_n 1, 1) := by decide +kernel
theorem dX7_showsAll_74 : decode cX7_showsAll 74 = .ok (.invokevirtual 58, 3) := by decide +kernel
theorem dX7_showsAll_77 : decode cX7_showsAll 77 = .ok (.istore_n 1, 1) := by decide +kernel
theorem dX7_showsAll_78 : decode cX7_showsAll 78 = .ok (.iload_n 2, 1) := by decide +kernel
theorem dX7_showsAll_79 : decode cX7_showsAll 79 = .ok (.iconst (-1), 1) := by decide +kernel
theorem dX7_showsAll_80 : decode cX7_showsAll 80 = .ok (.if_icmp .eq 12, 3) := by decide +kernel
theorem dX7_showsAll_83 : decode cX7_showsAll 83 = .ok (.aload_n 0, 1) := by decide +kernel
theorem dX7_showsAll_84 : decode cX7_showsAll 84 = .ok (.bipush 32, 2) := by decide +kernel
theorem dX7_showsAll_86 : decode cX7_showsAll 86 = .ok (.invokevirtual 251, 3) := by decide +kernel
theorem dX7_showsAll_89 : decode cX7_showsAll 89 = .ok (.goto (-37), 3) := by decide +kernel
theorem dX7_showsAll_92 : decode cX7_showsAll 92 = .ok (.iload_n 1, 1) := by decide +kernel
theorem dX7_showsAll_93 : decode cX7_showsAll 93 = .ok (.ifCond .eq (-41), 3) := by decide +kernel
theorem dX7_showsAll_96 : decode cX7_showsAll 96 = .ok (.aload_n 0, 1) := by decide +kernel
theorem dX7_showsAll_97 : decode cX7_showsAll 97 = .ok (.bipush 41, 2) := by decide +kernel
theorem dX7_showsAll_99 : decode cX7_showsAll 99 = .ok (.invokevirtual 251, 3) := by decide +kernel
theorem dX7_showsAll_102 : decode cX7_showsAll 102 = .ok (.goto (-50), 3) := by decide +kernel
theorem dX7_showsAll_105 : decode cX7_showsAll 105 = .ok (.iload_n 2, 1) := by decide +kernel
theorem dX7_showsAll_106 : decode cX7_showsAll 106 = .ok (.istore_n 1, 1) := by decide +kernel
theorem dX7_showsAll_107 : decode cX7_showsAll 107 = .ok (.goto (-100), 3) := by decide +kernel
theorem dX7_showsAll_110 : decode cX7_showsAll 110 = .ok (.return_, 1) := by decide +kernel
theorem dX7_shown_0 : decode cX7_shown 0 = .ok (.iload_n 1, 1) := by decide +kernel
theorem dX7_shown_1 : decode cX7_shown 1 = .ok (.ifCond .ge 10, 3) := by decide +kernel
theorem dX7_shown_4 : decode cX7_shown 4 = .ok (.aload_n 0, 1) := by decide +kernel
theorem dX7_shown_5 : decode cX7_shown 5 = .ok (.bipush (-2), 2) := by decide +kernel
theorem dX7_shown_7 : decode cX7_shown 7 = .ok (.invokevirtual 83, 3) := by decide +kernel
theorem dX7_shown_10 : decode cX7_shown 10 = .ok (.ireturn, 1) := by decide +kernel
theorem dX7_shown_11 : decode cX7_shown 11 = .ok (.aload_n 0, 1) := by decide +kernel
theorem dX7_shown_12 : decode cX7_shown 12 = .ok (.iconst 0, 1) := by decide +kernel
theorem dX7_shown_13 : decode cX7_shown 13 = .ok (.putfield 242, 3) := by decide +kernel
theorem dX7_shown_16 : decode cX7_shown 16 = .ok (.aload_n 0, 1) := by decide +kernel
theorem dX7_shown_17 : decode cX7_shown 17 = .ok (.iconst (-1), 1) := by decide +kernel
theorem dX7_shown_18 : decode cX7_shown 18 = .ok (.putfield 248, 3) := by decide +kernel
theorem dX7_shown_21 : decode cX7_shown 21 = .ok (.aload_n 0, 1) := by decide +kernel
theorem dX7_shown_22 : decode cX7_shown 22 = .ok (.iload_n 1, 1) := by decide +kernel
theorem dX7_shown_23 : decode cX7_shown 23 = .ok (.putfield 245, 3) := by decide +kernel
theorem dX7_shown_26 : decode cX7_shown 26 = .ok (.aload_n 0, 1) := by decide +kernel
theorem dX7_shown_27 : decode cX7_shown 27 = .ok (.invokevirtual 260, 3) := by decide +kernel
theorem dX7_shown_30 : decode cX7_shown 30 = .ok (.aload_n 0, 1) := by decide +kernel
theorem dX7_shown_31 : decode cX7_shown 31 = .ok (.getfield 248, 3) := by decide +kernel
theorem dX7_shown_34 : decode cX7_shown 34 = .ok (.ireturn, 1) := by decide +kernel
theorem dX7_back_0 : decode cX7_back 0 = .ok (.aload_n 0, 1) := by decide +kernel
theorem dX7_back_1 : decode cX7_back 1 = .ok (.getfield 40, 3) := by decide +kernel
theorem dX7_back_4 : decode cX7_back 4 = .ok (.ifCond .ne 10, 3) := by decide +kernel
theorem dX7_back_7 : decode cX7_back 7 = .ok (.aload_n 0, 1) := by decide +kernel
theorem dX7_back_8 : decode cX7_back 8 = .ok (.bipush (-3), 2) := by decide +kernel
theorem dX7_back_10 : decode cX7_back 10 = .ok (.invokevirtual 83, 3) := by decide +kernel
theorem dX7_back_13 : decode cX7_back 13 = .ok (.ireturn, 1) := by decide +kernel
theorem dX7_back_14 : decode cX7_back 14 = .ok (.aload_n 0, 1) := by decide +kernel
theorem dX7_back_15 : decode cX7_back 15 = .ok (.dup, 1) := by decide +kernel
theorem dX7_back_16 : decode cX7_back 16 = .ok (.getfield 40, 3) := by decide +kernel
theorem dX7_back_19 : decode cX7_back 19 = .ok (.iconst 1, 1) := by decide +kernel
theorem dX7_back_20 : decode cX7_back 20 = .ok (.isub, 1) := by decide +kernel
theorem dX7_back_21 : decode cX7_back 21 = .ok (.putfield 40, 3) := by decide +kernel
theorem dX7_back_24 : decode cX7_back 24 = .ok (.iconst 0, 1) := by decide +kernel
theorem dX7_back_25 : decode cX7_back 25 = .ok (.istore_n 1, 1) := by decide +kernel
theorem dX7_back_26 : decode cX7_back 26 = .ok (.iload_n 1, 1) := by decide +kernel
theorem dX7_back_27 : decode cX7_back 27 = .ok (.sipush 215, 3) := by decide +kernel
theorem dX7_back_30 : decode cX7_back 30 = .ok (.if_icmp .ge 30, 3) := by decide +kernel
theorem dX7_back_33 : decode cX7_back 33 = .ok (.aload_n 0, 1) := by decide +kernel
theorem dX7_back_34 : decode cX7_back 34 = .ok (.getfield 7, 3) := by decide +kernel
theorem dX7_back_37 : decode cX7_back 37 = .ok (.iload_n 1, 1) := by decide +kernel
theorem dX7_back_38 : decode cX7_back 38 = .ok (.aload_n 0, 1) := by decide +kernel
theorem dX7_back_39 : decode cX7_back 39 = .ok (.getfield 13, 3) := by decide +kernel
theorem dX7_back_42 : decode cX7_back 42 = .ok (.sipush 215, 3) := by decide +kernel
theorem dX7_back_45 : decode cX7_back 45 = .ok (.aload_n 0, 1) := by decide +kernel
theorem dX7_back_46 : decode cX7_back 46 = .ok (.getfield 40, 3) := by decide +kernel
theorem dX7_back_49 : decode cX7_back 49 = .ok (.imul, 1) := by decide +kernel
theorem dX7_back_50 : decode cX7_back 50 = .ok (.iload_n 1, 1) := by decide +kernel
theorem dX7_back_51 : decode cX7_back 51 = .ok (.iadd, 1) := by decide +kernel
theorem dX7_back_52 : decode cX7_back 52 = .ok (.laload, 1) := by decide +kernel
theorem dX7_back_53 : decode cX7_back 53 = .ok (.lastore, 1) := by decide +kernel
theorem dX7_back_54 : decode cX7_back 54 = .ok (.iinc 1 1, 3) := by decide +kernel
theorem dX7_back_57 : decode cX7_back 57 = .ok (.goto (-31), 3) := by decide +kernel
theorem dX7_back_60 : decode cX7_back 60 = .ok (.aload_n 0, 1) := by decide +kernel
theorem dX7_back_61 : decode cX7_back 61 = .ok (.getfield 40, 3) := by decide +kernel
theorem dX7_back_64 : decode cX7_back 64 = .ok (.ireturn, 1) := by decide +kernel
theorem dX7_toldOf_0 : decode cX7_toldOf 0 = .ok (.iload_n 1, 1) := by decide +kernel
theorem dX7_toldOf_1 : decode cX7_toldOf 1 = .ok (.iconst 3, 1) := by decide +kernel
theorem dX7_toldOf_2 : decode cX7_toldOf 2 = .ok (.if_icmp .ge 12, 3) := by decide +kernel
theorem dX7_toldOf_5 : decode cX7_toldOf 5 = .ok (.aload_n 0, 1) := by decide +kernel
theorem dX7_toldOf_6 : decode cX7_toldOf 6 = .ok (.getfield 16, 3) := by decide +kernel
theorem dX7_toldOf_9 : decode cX7_toldOf 9 = .ok (.iload_n 1, 1) := by decide +kernel
theorem dX7_toldOf_10 : decode cX7_toldOf 10 = .ok (.iaload, 1) := by decide +kernel
theorem dX7_toldOf_11 : decode cX7_toldOf 11 = .ok (.goto 41, 3) := by decide +kernel
theorem dX7_toldOf_14 : decode cX7_toldOf 14 = .ok (.iload_n 1, 1) := by decide +kernel
theorem dX7_toldOf_15 : decode cX7_toldOf 15 = .ok (.iconst 3, 1) := by decide +kernel
theorem dX7_toldOf_16 : decode cX7_toldOf 16 = .ok (.if_icmp .ne 10, 3) := by decide +kernel
theorem dX7_toldOf_19 : decode cX7_toldOf 19 = .ok (.aload_n 0, 1) := by decide +kernel
theorem dX7_toldOf_20 : decode cX7_toldOf 20 = .ok (.getfield 208, 3) := by decide +kernel
theorem dX7_toldOf_23 : decode cX7_toldOf 23 = .ok (.goto 29, 3) := by decide +kernel
theorem dX7_toldOf_26 : decode cX7_toldOf 26 = .ok (.iload_n 1, 1) := by decide +kernel
theorem dX7_toldOf_27 : decode cX7_toldOf 27 = .ok (.bipush 9, 2) := by decide +kernel
theorem dX7_toldOf_29 : decode cX7_toldOf 29 = .ok (.if_icmp .ne 10, 3) := by decide +kernel
theorem dX7_toldOf_32 : decode cX7_toldOf 32 = .ok (.aload_n 0, 1) := by decide +kernel
theorem dX7_toldOf_33 : decode cX7_toldOf 33 = .ok (.getfield 40, 3) := by decide +kernel
theorem dX7_toldOf_36 : decode cX7_toldOf 36 = .ok (.goto 16, 3) := by decide +kernel
theorem dX7_toldOf_39 : decode cX7_toldOf 39 = .ok (.aload_n 0, 1) := by decide +kernel
theorem dX7_toldOf_40 : decode cX7_toldOf 40 = .ok (.getfield 7, 3) := by decide +kernel
theorem dX7_toldOf_43 : decode cX7_toldOf 43 = .ok (.sipush 208, 3) := by decide +kernel
theorem dX7_toldOf_46 : decode cX7_toldOf 46 = .ok (.iload_n 1, 1) := by decide +kernel
theorem dX7_toldOf_47 : decode cX7_toldOf 47 = .ok (.iadd, 1) := by decide +kernel
theorem dX7_toldOf_48 : decode cX7_toldOf 48 = .ok (.iconst 4, 1) := by decide +kernel
theorem dX7_toldOf_49 : decode cX7_toldOf 49 = .ok (.isub, 1) := by decide +kernel
theorem dX7_toldOf_50 : decode cX7_toldOf 50 = .ok (.laload, 1) := by decide +kernel
theorem dX7_toldOf_51 : decode cX7_toldOf 51 = .ok (.l2i, 1) := by decide +kernel
theorem dX7_toldOf_52 : decode cX7_toldOf 52 = .ok (.ireturn, 1) := by decide +kernel
theorem dX7_told_0 : decode cX7_told 0 = .ok (.iload_n 1, 1) := by decide +kernel
theorem dX7_told_1 : decode cX7_told 1 = .ok (.i2l, 1) := by decide +kernel
theorem dX7_told_2 : decode cX7_told 2 = .ok (.lconst 0, 1) := by decide +kernel
theorem dX7_told_3 : decode cX7_told 3 = .ok (.ldc2_w 263, 3) := by decide +kernel
theorem dX7_told_6 : decode cX7_told 6 = .ok (.invokestatic 46, 3) := by decide +kernel
theorem dX7_told_9 : decode cX7_told 9 = .ok (.ifCond .eq 11, 3) := by decide +kernel
theorem dX7_told_12 : decode cX7_told 12 = .ok (.aload_n 0, 1) := by decide +kernel
theorem dX7_told_13 : decode cX7_told 13 = .ok (.iload_n 1, 1) := by decide +kernel
theorem dX7_told_14 : decode cX7_told 14 = .ok (.invokevirtual 265, 3) := by decide +kernel
theorem dX7_told_17 : decode cX7_told 17 = .ok (.goto 9, 3) := by decide +kernel
theorem dX7_told_20 : decode cX7_told 20 = .ok (.aload_n 0, 1) := by decide +kernel
theorem dX7_told_21 : decode cX7_told 21 = .ok (.bipush (-2), 2) := by decide +kernel
theorem dX7_told_23 : decode cX7_told 23 = .ok (.invokevirtual 83, 3) := by decide +kernel
theorem dX7_told_26 : decode cX7_told 26 = .ok (.ireturn, 1) := by decide +kernel
theorem dX7_digest_0 : decode cX7_digest 0 = .ok (.ldc2_w 268, 3) := by decide +kernel
theorem dX7_digest_3 : decode cX7_digest 3 = .ok (.lstore_n 1, 1) := by decide +kernel
theorem dX7_digest_4 : decode cX7_digest 4 = .ok (.iconst 0, 1) := by decide +kernel
theorem dX7_digest_5 : decode cX7_digest 5 = .ok (.istore_n 3, 1) := by decide +kernel
theorem dX7_digest_6 : decode cX7_digest 6 = .ok (.iload_n 3, 1) := by decide +kernel
theorem dX7_digest_7 : decode cX7_digest 7 = .ok (.bipush 10, 2) := by decide +kernel
theorem dX7_digest_9 : decode cX7_digest 9 = .ok (.if_icmp .ge 22, 3) := by decide +kernel
theorem dX7_digest_12 : decode cX7_digest 12 = .ok (.ldc2_w 270, 3) := by decide +kernel
theorem dX7_digest_15 : decode cX7_digest 15 = .ok (.lload_n 1, 1) := by decide +kernel
theorem dX7_digest_16 : decode cX7_digest 16 = .ok (.lmul, 1) := by decide +kernel
theorem dX7_digest_17 : decode cX7_digest 17 = .ok (.aload_n 0, 1) := by decide +kernel
theorem dX7_digest_18 : decode cX7_digest 18 = .ok (.iload_n 3, 1) := by decide +kernel
theorem dX7_digest_19 : decode cX7_digest 19 = .ok (.invokevirtual 265, 3) := by decide +kernel
theorem dX7_digest_22 : decode cX7_digest 22 = .ok (.i2l, 1) := by decide +kernel
theorem dX7_digest_23 : decode cX7_digest 23 = .ok (.ladd, 1) := by decide +kernel
theorem dX7_digest_24 : decode cX7_digest 24 = .ok (.lstore_n 1, 1) := by decide +kernel
theorem dX7_digest_25 : decode cX7_digest 25 = .ok (.iinc 3 1, 3) := by decide +kernel
theorem dX7_digest_28 : decode cX7_digest 28 = .ok (.goto (-22), 3) := by decide +kernel
theorem dX7_digest_31 : decode cX7_digest 31 = .ok (.iconst 0, 1) := by decide +kernel
theorem dX7_digest_32 : decode cX7_digest 32 = .ok (.istore_n 3, 1) := by decide +kernel
theorem dX7_digest_33 : decode cX7_digest 33 = .ok (.iload_n 3, 1) := by decide +kernel
theorem dX7_digest_34 : decode cX7_digest 34 = .ok (.bipush 7, 2) := by decide +kernel
theorem dX7_digest_36 : decode cX7_digest 36 = .ok (.if_icmp .ge 22, 3) := by decide +kernel
theorem dX7_digest_39 : decode cX7_digest 39 = .ok (.ldc2_w 270, 3) := by decide +kernel
theorem dX7_digest_42 : decode cX7_digest 42 = .ok (.lload_n 1, 1) := by decide +kernel
theorem dX7_digest_43 : decode cX7_digest 43 = .ok (.lmul, 1) := by decide +kernel
theorem dX7_digest_44 : decode cX7_digest 44 = .ok (.aload_n 0, 1) := by decide +kernel
theorem dX7_digest_45 : decode cX7_digest 45 = .ok (.iload_n 3, 1) := by decide +kernel
theorem dX7_digest_46 : decode cX7_digest 46 = .ok (.invokevirtual 203, 3) := by decide +kernel
theorem dX7_digest_49 : decode cX7_digest 49 = .ok (.i2l, 1) := by decide +kernel
theorem dX7_digest_50 : decode cX7_digest 50 = .ok (.ladd, 1) := by decide +kernel
theorem dX7_digest_51 : decode cX7_digest 51 = .ok (.lstore_n 1, 1) := by decide +kernel
theorem dX7_digest_52 : decode cX7_digest 52 = .ok (.iinc 3 1, 3) := by decide +kernel
theorem dX7_digest_55 : decode cX7_digest 55 = .ok (.goto (-22), 3) := by decide +kernel
theorem dX7_digest_58 : decode cX7_digest 58 = .ok (.iconst 1, 1) := by decide +kernel
theorem dX7_digest_59 : decode cX7_digest 59 = .ok (.istore_n 3, 1) := by decide +kernel
theorem dX7_digest_60 : decode cX7_digest 60 = .ok (.iload_n 3, 1) := by decide +kernel
theorem dX7_digest_61 : decode cX7_digest 61 = .ok (.bipush 12, 2) := by decide +kernel
theorem dX7_digest_63 : decode cX7_digest 63 = .ok (.if_icmp .gt 83, 3) := by decide +kernel
theorem dX7_digest_66 : decode cX7_digest 66 = .ok (.aload_n 0, 1) := by decide +kernel
theorem dX7_digest_67 : decode cX7_digest 67 = .ok (.iload_n 3, 1) := by decide +kernel
theorem dX7_digest_68 : decode cX7_digest 68 = .ok (.invokevirtual 54, 3) := by decide +kernel
theorem dX7_digest_71 : decode cX7_digest 71 = .ok (.ifCond .eq 69, 3) := by decide +kernel
theorem dX7_digest_74 : decode cX7_digest 74 = .ok (.ldc2_w 270, 3) := by decide +kernel
theorem dX7_digest_77 : decode cX7_digest 77 = .ok (.lload_n 1, 1) := by decide +kernel
theorem dX7_digest_78 : decode cX7_digest 78 = .ok (.lmul, 1) := by decide +kernel
theorem dX7_digest_79 : decode cX7_digest 79 = .ok (.iload_n 3, 1) := by decide +kernel
theorem dX7_digest_80 : decode cX7_digest 80 = .ok (.i2l, 1) := by decide +kernel
theorem dX7_digest_81 : decode cX7_digest 81 = .ok (.ladd, 1) := by decide +kernel
theorem dX7_digest_82 : decode cX7_digest 82 = .ok (.lstore_n 1, 1) := by decide +kernel
theorem dX7_digest_83 : decode cX7_digest 83 = .ok (.iconst 0, 1) := by decide +kernel
theorem dX7_digest_84 : decode cX7_digest 84 = .ok (.istore 4, 2) := by decide +kernel
theorem dX7_digest_86 : decode cX7_digest 86 = .ok (.iload 4, 2) := by decide +kernel
theorem dX7_digest_88 : decode cX7_digest 88 = .ok (.bipush 16, 2) := by decide +kernel
theorem dX7_digest_90 : decode cX7_digest 90 = .ok (.if_icmp .ge 24, 3) := by decide +kernel
theorem dX7_digest_93 : decode cX7_digest 93 = .ok (.ldc2_w 270, 3) := by decide +kernel
theorem dX7_digest_96 : decode cX7_digest 96 = .ok (.lload_n 1, 1) := by decide +kernel
theorem dX7_digest_97 : decode cX7_digest 97 = .ok (.lmul, 1) := by decide +kernel
theorem dX7_digest_98 : decode cX7_digest 98 = .ok (.aload_n 0, 1) := by decide +kernel
theorem dX7_digest_99 : decode cX7_digest 99 = .ok (.iload_n 3, 1) := by decide +kernel
theorem dX7_digest_100 : decode cX7_digest 100 = .ok (.iload 4, 2) := by decide +kernel
theorem dX7_digest_102 : decode cX7_digest 102 = .ok (.invokevirtual 135, 3) := by decide +kernel
theorem dX7_digest_105 : decode cX7_digest 105 = .ok (.i2l, 1) := by decide +kernel
theorem dX7_digest_106 : decode cX7_digest 106 = .ok (.ladd, 1) := by decide +kernel
theorem dX7_digest_107 : decode cX7_digest 107 = .ok (.lstore_n 1, 1) := by decide +kernel
theorem dX7_digest_108 : decode cX7_digest 108 = .ok (.iinc 4 1, 3) := by decide +kernel
theorem dX7_digest_111 : decode cX7_digest 111 = .ok (.goto (-25), 3) := by decide +kernel
theorem dX7_digest_114 : decode cX7_digest 114 = .ok (.ldc2_w 270, 3) := by decide +kernel
theorem dX7_digest_117 : decode cX7_digest 117 = .ok (.ldc2_w 270, 3) := by decide +kernel
theorem dX7_digest_120 : decode cX7_digest 120 = .ok (.lload_n 1, 1) := by decide +kernel
theorem dX7_digest_121 : decode cX7_digest 121 = .ok (.lmul, 1) := by decide +kernel
theorem dX7_digest_122 : decode cX7_digest 122 = .ok (.aload_n 0, 1) := by decide +kernel
theorem dX7_digest_123 : decode cX7_digest 123 = .ok (.iload_n 3, 1) := by decide +kernel
theorem dX7_digest_124 : decode cX7_digest 124 = .ok (.bipush 9, 2) := by decide +kernel
theorem dX7_digest_126 : decode cX7_digest 126 = .ok (.invokevirtual 50, 3) := by decide +kernel
theorem dX7_digest_129 : decode cX7_digest 129 = .ok (.ladd, 1) := by decide +kernel
theorem dX7_digest_130 : decode cX7_digest 130 = .ok (.lmul, 1) := by decide +kernel
theorem dX7_digest_131 : decode cX7_digest 131 = .ok (.aload_n 0, 1) := by decide +kernel
theorem dX7_digest_132 : decode cX7_digest 132 = .ok (.iload_n 3, 1) := by decide +kernel
theorem dX7_digest_133 : decode cX7_digest 133 = .ok (.bipush 10, 2) := by decide +kernel
theorem dX7_digest_135 : decode cX7_digest 135 = .ok (.invokevirtual 50, 3) := by decide +kernel
theorem dX7_digest_138 : decode cX7_digest 138 = .ok (.ladd, 1) := by decide +kernel
theorem dX7_digest_139 : decode cX7_digest 139 = .ok (.lstore_n 1, 1) := by decide +kernel
theorem dX7_digest_140 : decode cX7_digest 140 = .ok (.iinc 3 1, 3) := by decide +kernel
theorem dX7_digest_143 : decode cX7_digest 143 = .ok (.goto (-83), 3) := by decide +kernel
theorem dX7_digest_146 : decode cX7_digest 146 = .ok (.ldc2_w 270, 3) := by decide +kernel
theorem dX7_digest_149 : decode cX7_digest 149 = .ok (.ldc2_w 270, 3) := by decide +kernel
theorem dX7_digest_152 : decode cX7_digest 152 = .ok (.lload_n 1, 1) := by decide +kernel
theorem dX7_digest_153 : decode cX7_digest 153 = .ok (.lmul, 1) := by decide +kernel
theorem dX7_digest_154 : decode cX7_digest 154 = .ok (.aload_n 0, 1) := by decide +kernel
theorem dX7_digest_155 : decode cX7_digest 155 = .ok (.iconst 0, 1) := by decide +kernel
theorem dX7_digest_156 : decode cX7_digest 156 = .ok (.bipush 10, 2) := by decide +kernel
theorem dX7_digest_158 : decode cX7_digest 158 = .ok (.invokevirtual 50, 3) := by decide +kernel
theorem dX7_digest_161 : decode cX7_digest 161 = .ok (.ladd, 1) := by decide +kernel
theorem dX7_digest_162 : decode cX7_digest 162 = .ok (.lmul, 1) := by decide +kernel
theorem dX7_digest_163 : decode cX7_digest 163 = .ok (.aload_n 0, 1) := by decide +kernel
theorem dX7_digest_164 : decode cX7_digest 164 = .ok (.invokevirtual 165, 3) := by decide +kernel
theorem dX7_digest_167 : decode cX7_digest 167 = .ok (.i2l, 1) := by decide +kernel
theorem dX7_digest_168 : decode cX7_digest 168 = .ok (.ladd, 1) := by decide +kernel
theorem dX7_digest_169 : decode cX7_digest 169 = .ok (.lreturn, 1) := by decide +kernel
theorem dL_law_0 : decode cL_law 0 = .ok (.new 7, 3) := by decide +kernel
theorem dL_law_3 : decode cL_law 3 = .ok (.dup, 1) := by decide +kernel
theorem dL_law_4 : decode cL_law 4 = .ok (.invokespecial 9, 3) := by decide +kernel
theorem dL_law_7 : decode cL_law 7 = .ok (.astore_n 1, 1) := by decide +kernel
theorem dL_law_8 : decode cL_law 8 = .ok (.new 10, 3) := by decide +kernel
theorem dL_law_11 : decode cL_law 11 = .ok (.dup, 1) := by decide +kernel
theorem dL_law_12 : decode cL_law 12 = .ok (.invokespecial 12, 3) := by decide +kernel
theorem dL_law_15 : decode cL_law 15 = .ok (.astore_n 2, 1) := by decide +kernel
theorem dL_law_16 : decode cL_law 16 = .ok (.iconst 0, 1) := by decide +kernel
theorem dL_law_17 : decode cL_law 17 = .ok (.istore_n 3, 1) := by decide +kernel
theorem dL_law_18 : decode cL_law 18 = .ok (.iload_n 3, 1) := by decide +kernel
theorem dL_law_19 : decode cL_law 19 = .ok (.aload_n 0, 1) := by decide +kernel
theorem dL_law_20 : decode cL_law 20 = .ok (.arraylength, 1) := by decide +kernel
theorem dL_law_21 : decode cL_law 21 = .ok (.iconst 5, 1) := by decide +kernel
theorem dL_law_22 : decode cL_law 22 = .ok (.isub, 1) := by decide +kernel
theorem dL_law_23 : decode cL_law 23 = .ok (.if_icmp .gt 738, 3) := by decide +kernel
theorem dL_law_26 : decode cL_law 26 = .ok (.aload_n 0, 1) := by decide +kernel
theorem dL_law_27 : decode cL_law 27 = .ok (.iload_n 3, 1) := by decide +kernel
theorem dL_law_28 : decode cL_law 28 = .ok (.iaload, 1) := by decide +kernel
theorem dL_law_29 : decode cL_law 29 = .ok (.bipush 31, 2) := by decide +kernel
theorem dL_law_31 : decode cL_law 31 = .ok (.iand, 1) := by decide +kernel
theorem dL_law_32 : decode cL_law 32 = .ok (.tableswitch 723 0 21 #[104, 157, 210, 253, 276, 309, 343, 376, 409, 442, 475, 508, 531, 544, 578, 601, 624, 637, 650, 673, 686, 709], 104) := by decide +kernel
theorem dL_law_136 : decode cL_law 136 = .ok (.aload_n 1, 1) := by decide +kernel
theorem dL_law_137 : decode cL_law 137 = .ok (.aload_n 0, 1) := by decide +kernel
theorem dL_law_138 : decode cL_law 138 = .ok (.iload_n 3, 1) := by decide +kernel
theorem dL_law_139 : decode cL_law 139 = .ok (.iconst 1, 1) := by decide +kernel
theorem dL_law_140 : decode cL_law 140 = .ok (.iadd, 1) := by decide +kernel
theorem dL_law_141 : decode cL_law 141 = .ok (.iaload, 1) := by decide +kernel
theorem dL_law_142 : decode cL_law 142 = .ok (.aload_n 0, 1) := by decide +kernel
theorem dL_law_143 : decode cL_law 143 = .ok (.iload_n 3, 1) := by decide +kernel
theorem dL_law_144 : decode cL_law 144 = .ok (.iconst 2, 1) := by decide +kernel
theorem dL_law_145 : decode cL_law 145 = .ok (.iadd, 1) := by decide +kernel
theorem dL_law_146 : decode cL_law 146 = .ok (.iaload, 1) := by decide +kernel
theorem dL_law_147 : decode cL_law 147 = .ok (.aload_n 0, 1) := by decide +kernel
theorem dL_law_148 : decode cL_law 148 = .ok (.iload_n 3, 1) := by decide +kernel
theorem dL_law_149 : decode cL_law 149 = .ok (.iconst 3, 1) := by decide +kernel
theorem dL_law_150 : decode cL_law 150 = .ok (.iadd, 1) := by decide +kernel
theorem dL_law_151 : decode cL_law 151 = .ok (.iaload, 1) := by decide +kernel
theorem dL_law_152 : decode cL_law 152 = .ok (.aload_n 0, 1) := by decide +kernel
theorem dL_law_153 : decode cL_law 153 = .ok (.iload_n 3, 1) := by decide +kernel
theorem dL_law_154 : decode cL_law 154 = .ok (.iconst 4, 1) := by decide +kernel
theorem dL_law_155 : decode cL_law 155 = .ok (.iadd, 1) := by decide +kernel
theorem dL_law_156 : decode cL_law 156 = .ok (.iaload, 1) := by decide +kernel
theorem dL_law_157 : decode cL_law 157 = .ok (.invokevirtual 13, 3) := by decide +kernel
theorem dL_law_160 : decode cL_law 160 = .ok (.aload_n 2, 1) := by decide +kernel
theorem dL_law_161 : decode cL_law 161 = .ok (.aload_n 0, 1) := by decide +kernel
theorem dL_law_162 : decode cL_law 162 = .ok (.iload_n 3, 1) := by decide +kernel
theorem dL_law_163 : decode cL_law 163 = .ok (.iconst 1, 1) := by decide +kernel
theorem dL_law_164 : decode cL_law 164 = .ok (.iadd, 1) := by decide +kernel
theorem dL_law_165 : decode cL_law 165 = .ok (.iaload, 1) := by decide +kernel
theorem dL_law_166 : decode cL_law 166 = .ok (.aload_n 0, 1) := by decide +kernel
theorem dL_law_167 : decode cL_law 167 = .ok (.iload_n 3, 1) := by decide +kernel
theorem dL_law_168 : decode cL_law 168 = .ok (.iconst 2, 1) := by decide +kernel
theorem dL_law_169 : decode cL_law 169 = .ok (.iadd, 1) := by decide +kernel
theorem dL_law_170 : decode cL_law 170 = .ok (.iaload, 1) := by decide +kernel
theorem dL_law_171 : decode cL_law 171 = .ok (.aload_n 0, 1) := by decide +kernel
theorem dL_law_172 : decode cL_law 172 = .ok (.iload_n 3, 1) := by decide +kernel
theorem dL_law_173 : decode cL_law 173 = .ok (.iconst 3, 1) := by decide +kernel
theorem dL_law_174 : decode cL_law 174 = .ok (.iadd, 1) := by decide +kernel
theorem dL_law_175 : decode cL_law 175 = .ok (.iaload, 1) := by decide +kernel
theorem dL_law_176 : decode cL_law 176 = .ok (.aload_n 0, 1) := by decide +kernel
theorem dL_law_177 : decode cL_law 177 = .ok (.iload_n 3, 1) := by decide +kernel
theorem dL_law_178 : decode cL_law 178 = .ok (.iconst 4, 1) := by decide +kernel
theorem dL_law_179 : decode cL_law 179 = .ok (.iadd, 1) := by decide +kernel
theorem dL_law_180 : decode cL_law 180 = .ok (.iaload, 1) := by decide +kernel
theorem dL_law_181 : decode cL_law 181 = .ok (.invokevirtual 17, 3) := by decide +kernel
theorem dL_law_184 : decode cL_law 184 = .ok (.if_icmp .eq 571, 3) := by decide +kernel
theorem dL_law_187 : decode cL_law 187 = .ok (.iconst 0, 1) := by decide +kernel
theorem dL_law_188 : decode cL_law 188 = .ok (.ireturn, 1) := by decide +kernel
theorem dL_law_189 : decode cL_law 189 = .ok (.aload_n 1, 1) := by decide +kernel
theorem dL_law_190 : decode cL_law 190 = .ok (.aload_n 0, 1) := by decide +kernel
theorem dL_law_191 : decode cL_law 191 = .ok (.iload_n 3, 1) := by decide +kernel
theorem dL_law_192 : decode cL_law 192 = .ok (.iconst 1, 1) := by decide +kernel
theorem dL_law_193 : decode cL_law 193 = .ok (.iadd, 1) := by decide +kernel
theorem dL_law_194 : decode cL_law 194 = .ok (.iaload, 1) := by decide +kernel
theorem dL_law_195 : decode cL_law 195 = .ok (.aload_n 0, 1) := by decide +kernel
theorem dL_law_196 : decode cL_law 196 = .ok (.iload_n 3, 1) := by decide +kernel
theorem dL_law_197 : decode cL_law 197 = .ok (.iconst 2, 1) := by decide +kernel
theorem dL_law_198 : decode cL_law 198 = .ok (.iadd, 1) := by decide +kernel
theorem dL_law_199 : decode cL_law 199 = .ok (.iaload, 1) := by decide +kernel
theorem dL_law_200 : decode cL_law 200 = .ok (.aload_n 0, 1) := by decide +kernel
theorem dL_law_201 : decode cL_law 201 = .ok (.iload_n 3, 1) := by decide +kernel
theorem dL_law_202 : decode cL_law 202 = .ok (.iconst 3, 1) := by decide +kernel
theorem dL_law_203 : decode cL_law 203 = .ok (.iadd, 1) := by decide +kernel
theorem dL_law_204 : decode cL_law 204 = .ok (.iaload, 1) := by decide +kernel
theorem dL_law_205 : decode cL_law 205 = .ok (.aload_n 0, 1) := by decide +kernel
theorem dL_law_206 : decode cL_law 206 = .ok (.iload_n 3, 1) := by decide +kernel
theorem dL_law_207 : decode cL_law 207 = .ok (.iconst 4, 1) := by decide +kernel
theorem dL_law_208 : decode cL_law 208 = .ok (.iadd, 1) := by decide +kernel
theorem dL_law_209 : decode cL_law 209 = .ok (.iaload, 1) := by decide +kernel
theorem dL_law_210 : decode cL_law 210 = .ok (.invokevirtual 18, 3) := by decide +kernel
theorem dL_law_213 : decode cL_law 213 = .ok (.aload_n 2, 1) := by decide +kernel
theorem dL_law_214 : decode cL_law 214 = .ok (.aload_n 0, 1) := by decide +kernel
theorem dL_law_215 : decode cL_law 215 = .ok (.iload_n 3, 1) := by decide +kernel
theorem dL_law_216 : decode cL_law 216 = .ok (.iconst 1, 1) := by decide +kernel
theorem dL_law_217 : decode cL_law 217 = .ok (.iadd, 1) := by decide +kernel
theorem dL_law_218 : decode cL_law 218 = .ok (.iaload, 1) := by decide +kernel
theorem dL_law_219 : decode cL_law 219 = .ok (.aload_n 0, 1) := by decide +kernel
theorem dL_law_220 : decode cL_law 220 = .ok (.iload_n 3, 1) := by decide +kernel
theorem dL_law_221 : decode cL_law 221 = .ok (.iconst 2, 1) := by decide +kernel
theorem dL_law_222 : decode cL_law 222 = .ok (.iadd, 1) := by decide +kernel
theorem dL_law_223 : decode cL_law 223 = .ok (.iaload, 1) := by decide +kernel
theorem dL_law_224 : decode cL_law 224 = .ok (.aload_n 0, 1) := by decide +kernel
theorem dL_law_225 : decode cL_law 225 = .ok (.iload_n 3, 1) := by decide +kernel
theorem dL_law_226 : decode cL_law 226 = .ok (.iconst 3, 1) := by decide +kernel
theorem dL_law_227 : decode cL_law 227 = .ok (.iadd, 1) := by decide +kernel
theorem dL_law_228 : decode cL_law 228 = .ok (.iaload, 1) := by decide +kernel
theorem dL_law_229 : decode cL_law 229 = .ok (.aload_n 0, 1) := by decide +kernel
theorem dL_law_230 : decode cL_law 230 = .ok (.iload_n 3, 1) := by decide +kernel
theorem dL_law_231 : decode cL_law 231 = .ok (.iconst 4, 1) := by decide +kernel
theorem dL_law_232 : decode cL_law 232 = .ok (.iadd, 1) := by decide +kernel
theorem dL_law_233 : decode cL_law 233 = .ok (.iaload, 1) := by decide +kernel
theorem dL_law_234 : decode cL_law 234 = .ok (.invokevirtual 21, 3) := by decide +kernel
theorem dL_law_237 : decode cL_law 237 = .ok (.if_icmp .eq 518, 3) := by decide +kernel
theorem dL_law_240 : decode cL_law 240 = .ok (.iconst 0, 1) := by decide +kernel
theorem dL_law_241 : decode cL_law 241 = .ok (.ireturn, 1) := by decide +kernel
theorem dL_law_242 : decode cL_law 242 = .ok (.aload_n 1, 1) := by decide +kernel
theorem dL_law_243 : decode cL_law 243 = .ok (.aload_n 0, 1) := by decide +kernel
theorem dL_law_244 : decode cL_law 244 = .ok (.iload_n 3, 1) := by decide +kernel
theorem dL_law_245 : decode cL_law 245 = .ok (.iconst 1, 1) := by decide +kernel
theorem dL_law_246 : decode cL_law 246 = .ok (.iadd, 1) := by decide +kernel
theorem dL_law_247 : decode cL_law 247 = .ok (.iaload, 1) := by decide +kernel
theorem dL_law_248 : decode cL_law 248 = .ok (.aload_n 0, 1) := by decide +kernel
theorem dL_law_249 : decode cL_law 249 = .ok (.iload_n 3, 1) := by decide +kernel
theorem dL_law_250 : decode cL_law 250 = .ok (.iconst 2, 1) := by decide +kernel
theorem dL_law_251 : decode cL_law 251 = .ok (.iadd, 1) := by decide +kernel
theorem dL_law_252 : decode cL_law 252 = .ok (.iaload, 1) := by decide +kernel
theorem dL_law_253 : decode cL_law 253 = .ok (.aload_n 0, 1) := by decide +kernel
theorem dL_law_254 : decode cL_law 254 = .ok (.iload_n 3, 1) := by decide +kernel
theorem dL_law_255 : decode cL_law 255 = .ok (.iconst 3, 1) := by decide +kernel
theorem dL_law_256 : decode cL_law 256 = .ok (.iadd, 1) := by decide +kernel
theorem dL_law_257 : decode cL_law 257 = .ok (.iaload, 1) := by decide +kernel
theorem dL_law_258 : decode cL_law 258 = .ok (.invokevirtual 22, 3) := by decide +kernel
theorem dL_law_261 : decode cL_law 261 = .ok (.aload_n 2, 1) := by decide +kernel
theorem dL_law_262 : decode cL_law 262 = .ok (.aload_n 0, 1) := by decide +kernel
theorem dL_law_263 : decode cL_law 263 = .ok (.iload_n 3, 1) := by decide +kernel
theorem dL_law_264 : decode cL_law 264 = .ok (.iconst 1, 1) := by decide +kernel
theorem dL_law_265 : decode cL_law 265 = .ok (.iadd, 1) := by decide +kernel
theorem dL_law_266 : decode cL_law 266 = .ok (.iaload, 1) := by decide +kernel
theorem dL_law_267 : decode cL_law 267 = .ok (.aload_n 0, 1) := by decide +kernel
theorem dL_law_268 : decode cL_law 268 = .ok (.iload_n 3, 1) := by decide +kernel
theorem dL_law_269 : decode cL_law 269 = .ok (.iconst 2, 1) := by decide +kernel
theorem dL_law_270 : decode cL_law 270 = .ok (.iadd, 1) := by decide +kernel
theorem dL_law_271 : decode cL_law 271 = .ok (.iaload, 1) := by decide +kernel
theorem dL_law_272 : decode cL_law 272 = .ok (.aload_n 0, 1) := by decide +kernel
theorem dL_law_273 : decode cL_law 273 = .ok (.iload_n 3, 1) := by decide +kernel
theorem dL_law_274 : decode cL_law 274 = .ok (.iconst 3, 1) := by decide +kernel
theorem dL_law_275 : decode cL_law 275 = .ok (.iadd, 1) := by decide +kernel
theorem dL_law_276 : decode cL_law 276 = .ok (.iaload, 1) := by decide +kernel
theorem dL_law_277 : decode cL_law 277 = .ok (.invokevirtual 26, 3) := by decide +kernel
theorem dL_law_280 : decode cL_law 280 = .ok (.if_icmp .eq 475, 3) := by decide +kernel
theorem dL_law_283 : decode cL_law 283 = .ok (.iconst 0, 1) := by decide +kernel
theorem dL_law_284 : decode cL_law 284 = .ok (.ireturn, 1) := by decide +kernel
theorem dL_law_285 : decode cL_law 285 = .ok (.aload_n 1, 1) := by decide +kernel
theorem dL_law_286 : decode cL_law 286 = .ok (.aload_n 0, 1) := by decide +kernel
theorem dL_law_287 : decode cL_law 287 = .ok (.iload_n 3, 1) := by decide +kernel
theorem dL_law_288 : decode cL_law 288 = .ok (.iconst 1, 1) := by decide +kernel
theorem dL_law_289 : decode cL_law 289 = .ok (.iadd, 1) := by decide +kernel
theorem dL_law_290 : decode cL_law 290 = .ok (.iaload, 1) := by decide +kernel
theorem dL_law_291 : decode cL_law 291 = .ok (.invokevirtual 27, 3) := by decide +kernel
theorem dL_law_294 : decode cL_law 294 = .ok (.aload_n 2, 1) := by decide +kernel
theorem dL_law_295 : decode cL_law 295 = .ok (.aload_n 0, 1) := by decide +kernel
theorem dL_law_296 : decode cL_law 296 = .ok (.iload_n 3, 1) := by decide +kernel
theorem dL_law_297 : decode cL_law 297 = .ok (.iconst 1, 1) := by decide +kernel
theorem dL_law_298 : decode cL_law 298 = .ok (.iadd, 1) := by decide +kernel
theorem dL_law_299 : decode cL_law 299 = .ok (.iaload, 1) := by decide +kernel
theorem dL_law_300 : decode cL_law 300 = .ok (.invokevirtual 31, 3) := by decide +kernel
theorem dL_law_303 : decode cL_law 303 = .ok (.if_icmp .eq 452, 3) := by decide +kernel
theorem dL_law_306 : decode cL_law 306 = .ok (.iconst 0, 1) := by decide +kernel
theorem dL_law_307 : decode cL_law 307 = .ok (.ireturn, 1) := by decide +kernel
theorem dL_law_308 : decode cL_law 308 = .ok (.aload_n 1, 1) := by decide +kernel
theorem dL_law_309 : decode cL_law 309 = .ok (.aload_n 0, 1) := by decide +kernel
theorem dL_law_310 : decode cL_law 310 = .ok (.iload_n 3, 1) := by decide +kernel
theorem dL_law_311 : decode cL_law 311 = .ok (.iconst 1, 1) := by decide +kernel
theorem dL_law_312 : decode cL_law 312 = .ok (.iadd, 1) := by decide +kernel
theorem dL_law_313 : decode cL_law 313 = .ok (.iaload, 1) := by decide +kernel
theorem dL_law_314 : decode cL_law 314 = .ok (.aload_n 0, 1) := by decide +kernel
theorem dL_law_315 : decode cL_law 315 = .ok (.iload_n 3, 1) := by decide +kernel
theorem dL_law_316 : decode cL_law 316 = .ok (.iconst 2, 1) := by decide +kernel
theorem dL_law_317 : decode cL_law 317 = .ok (.iadd, 1) := by decide +kernel
theorem dL_law_318 : decode cL_law 318 = .ok (.iaload, 1) := by decide +kernel
theorem dL_law_319 : decode cL_law 319 = .ok (.invokevirtual 32, 3) := by decide +kernel
theorem dL_law_322 : decode cL_law 322 = .ok (.aload_n 2, 1) := by decide +kernel
theorem dL_law_323 : decode cL_law 323 = .ok (.aload_n 0, 1) := by decide +kernel
theorem dL_law_324 : decode cL_law 324 = .ok (.iload_n 3, 1) := by decide +kernel
theorem dL_law_325 : decode cL_law 325 = .ok (.iconst 1, 1) := by decide +kernel
theorem dL_law_326 : decode cL_law 326 = .ok (.iadd, 1) := by decide +kernel
theorem dL_law_327 : decode cL_law 327 = .ok (.iaload, 1) := by decide +kernel
theorem dL_law_328 : decode cL_law 328 = .ok (.aload_n 0, 1) := by decide +kernel
theorem dL_law_329 : decode cL_law 329 = .ok (.iload_n 3, 1) := by decide +kernel
theorem dL_law_330 : decode cL_law 330 = .ok (.iconst 2, 1) := by decide +kernel
theorem dL_law_331 : decode cL_law 331 = .ok (.iadd, 1) := by decide +kernel
theorem dL_law_332 : decode cL_law 332 = .ok (.iaload, 1) := by decide +kernel
theorem dL_law_333 : decode cL_law 333 = .ok (.invokevirtual 36, 3) := by decide +kernel
theorem dL_law_336 : decode cL_law 336 = .ok (.if_icmp .eq 419, 3) := by decide +kernel
theorem dL_law_339 : decode cL_law 339 = .ok (.iconst 0, 1) := by decide +kernel
theorem dL_law_340 : decode cL_law 340 = .ok (.ireturn, 1) := by decide +kernel
theorem dL_law_341 : decode cL_law 341 = .ok (.aload_n 1, 1) := by decide +kernel
theorem dL_law_342 : decode cL_law 342 = .ok (.aload_n 0, 1) := by decide +kernel
theorem dL_law_343 : decode cL_law 343 = .ok (.iload_n 3, 1) := by decide +kernel
theorem dL_law_344 : decode cL_law 344 = .ok (.iconst 1, 1) := by decide +kernel
theorem dL_law_345 : decode cL_law 345 = .ok (.iadd, 1) := by decide +kernel
theorem dL_law_346 : decode cL_law 346 = .ok (.iaload, 1) := by decide +kernel
theorem dL_law_347 : decode cL_law 347 = .ok (.aload_n 0, 1) := by decide +kernel
theorem dL_law_348 : decode cL_law 348 = .ok (.iload_n 3, 1) := by decide +kernel
theorem dL_law_349 : decode cL_law 349 = .ok (.iconst 2, 1) := by decide +kernel
theorem dL_law_350 : decode cL_law 350 = .ok (.iadd, 1) := by decide +kernel
theorem dL_law_351 : decode cL_law 351 = .ok (.iaload, 1) := by decide +kernel
theorem dL_law_352 : decode cL_law 352 = .ok (.invokevirtual 37, 3) := by decide +kernel
theorem dL_law_355 : decode cL_law 355 = .ok (.aload_n 2, 1) := by decide +kernel
theorem dL_law_356 : decode cL_law 356 = .ok (.aload_n 0, 1) := by decide +kernel
theorem dL_law_357 : decode cL_law 357 = .ok (.iload_n 3, 1) := by decide +kernel
theorem dL_law_358 : decode cL_law 358 = .ok (.iconst 1, 1) := by decide +kernel
theorem dL_law_359 : decode cL_law 359 = .ok (.iadd, 1) := by decide +kernel
theorem dL_law_360 : decode cL_law 360 = .ok (.iaload, 1) := by decide +kernel
theorem dL_law_361 : decode cL_law 361 = .ok (.aload_n 0, 1) := by decide +kernel
theorem dL_law_362 : decode cL_law 362 = .ok (.iload_n 3, 1) := by decide +kernel
theorem dL_law_363 : decode cL_law 363 = .ok (.iconst 2, 1) := by decide +kernel
theorem dL_law_364 : decode cL_law 364 = .ok (.iadd, 1) := by decide +kernel
theorem dL_law_365 : decode cL_law 365 = .ok (.iaload, 1) := by decide +kernel
theorem dL_law_366 : decode cL_law 366 = .ok (.invokevirtual 41, 3) := by decide +kernel
theorem dL_law_369 : decode cL_law 369 = .ok (.lcmp, 1) := by decide +kernel
theorem dL_law_370 : decode cL_law 370 = .ok (.ifCond .eq 385, 3) := by decide +kernel
theorem dL_law_373 : decode cL_law 373 = .ok (.iconst 0, 1) := by decide +kernel
theorem dL_law_374 : decode cL_law 374 = .ok (.ireturn, 1) := by decide +kernel
theorem dL_law_375 : decode cL_law 375 = .ok (.aload_n 1, 1) := by decide +kernel
theorem dL_law_376 : decode cL_law 376 = .ok (.aload_n 0, 1) := by decide +kernel
theorem dL_law_377 : decode cL_law 377 = .ok (.iload_n 3, 1) := by decide +kernel
theorem dL_law_378 : decode cL_law 378 = .ok (.iconst 1, 1) := by decide +kernel
theorem dL_law_379 : decode cL_law 379 = .ok (.iadd, 1) := by decide +kernel
theorem dL_law_380 : decode cL_law 380 = .ok (.iaload, 1) := by decide +kernel
theorem dL_law_381 : decode cL_law 381 = .ok (.aload_n 0, 1) := by decide +kernel
theorem dL_law_382 : decode cL_law 382 = .ok (.iload_n 3, 1) := by decide +kernel
theorem dL_law_383 : decode cL_law 383 = .ok (.iconst 2, 1) := by decide +kernel
theorem dL_law_384 : decode cL_law 384 = .ok (.iadd, 1) := by decide +kernel
theorem dL_law_385 : decode cL_law 385 = .ok (.iaload, 1) := by decide +kernel
theorem dL_law_386 : decode cL_law 386 = .ok (.invokevirtual 42, 3) := by decide +kernel
theorem dL_law_389 : decode cL_law 389 = .ok (.aload_n 2, 1) := by decide +kernel
theorem dL_law_390 : decode cL_law 390 = .ok (.aload_n 0, 1) := by decide +kernel
theorem dL_law_391 : decode cL_law 391 = .ok (.iload_n 3, 1) := by decide +kernel
theorem dL_law_392 : decode cL_law 392 = .ok (.iconst 1, 1) := by decide +kernel
theorem dL_law_393 : decode cL_law 393 = .ok (.iadd, 1) := by decide +kernel
theorem dL_law_394 : decode cL_law 394 = .ok (.iaload, 1) := by decide +kernel
theorem dL_law_395 : decode cL_law 395 = .ok (.aload_n 0, 1) := by decide +kernel
theorem dL_law_396 : decode cL_law 396 = .ok (.iload_n 3, 1) := by decide +kernel
theorem dL_law_397 : decode cL_law 397 = .ok (.iconst 2, 1) := by decide +kernel
theorem dL_law_398 : decode cL_law 398 = .ok (.iadd, 1) := by decide +kernel
theorem dL_law_399 : decode cL_law 399 = .ok (.iaload, 1) := by decide +kernel
theorem dL_law_400 : decode cL_law 400 = .ok (.invokevirtual 45, 3) := by decide +kernel
theorem dL_law_403 : decode cL_law 403 = .ok (.if_icmp .eq 352, 3) := by decide +kernel
theorem dL_law_406 : decode cL_law 406 = .ok (.iconst 0, 1) := by decide +kernel
theorem dL_law_407 : decode cL_law 407 = .ok (.ireturn, 1) := by decide +kernel
theorem dL_law_408 : decode cL_law 408 = .ok (.aload_n 1, 1) := by decide +kernel
theorem dL_law_409 : decode cL_law 409 = .ok (.aload_n 0, 1) := by decide +kernel
theorem dL_law_410 : decode cL_law 410 = .ok (.iload_n 3, 1) := by decide +kernel
theorem dL_law_411 : decode cL_law 411 = .ok (.iconst 1, 1) := by decide +kernel
theorem dL_law_412 : decode cL_law 412 = .ok (.iadd, 1) := by decide +kernel
theorem dL_law_413 : decode cL_law 413 = .ok (.iaload, 1) := by decide +kernel
theorem dL_law_414 : decode cL_law 414 = .ok (.aload_n 0, 1) := by decide +kernel
theorem dL_law_415 : decode cL_law 415 = .ok (.iload_n 3, 1) := by decide +kernel
theorem dL_law_416 : decode cL_law 416 = .ok (.iconst 2, 1) := by decide +kernel
theorem dL_law_417 : decode cL_law 417 = .ok (.iadd, 1) := by decide +kernel
theorem dL_law_418 : decode cL_law 418 = .ok (.iaload, 1) := by decide +kernel
theorem dL_law_419 : decode cL_law 419 = .ok (.invokevirtual 46, 3) := by decide +kernel
theorem dL_law_422 : decode cL_law 422 = .ok (.aload_n 2, 1) := by decide +kernel
theorem dL_law_423 : decode cL_law 423 = .ok (.aload_n 0, 1) := by decide +kernel
theorem dL_law_424 : decode cL_law 424 = .ok (.iload_n 3, 1) := by decide +kernel
theorem dL_law_425 : decode cL_law 425 = .ok (.iconst 1, 1) := by decide +kernel
theorem dL_law_426 : decode cL_law 426 = .ok (.iadd, 1) := by decide +kernel
theorem dL_law_427 : decode cL_law 427 = .ok (.iaload, 1) := by decide +kernel
theorem dL_law_428 : decode cL_law 428 = .ok (.aload_n 0, 1) := by decide +kernel
theorem dL_law_429 : decode cL_law 429 = .ok (.iload_n 3, 1) := by decide +kernel
theorem dL_law_430 : decode cL_law 430 = .ok (.iconst 2, 1) := by decide +kernel
theorem dL_law_431 : decode cL_law 431 = .ok (.iadd, 1) := by decide +kernel
theorem dL_law_432 : decode cL_law 432 = .ok (.iaload, 1) := by decide +kernel
theorem dL_law_433 : decode cL_law 433 = .ok (.invokevirtual 49, 3) := by decide +kernel
theorem dL_law_436 : decode cL_law 436 = .ok (.if_icmp .eq 319, 3) := by decide +kernel
theorem dL_law_439 : decode cL_law 439 = .ok (.iconst 0, 1) := by decide +kernel
theorem dL_law_440 : decode cL_law 440 = .ok (.ireturn, 1) := by decide +kernel
theorem dL_law_441 : decode cL_law 441 = .ok (.aload_n 1, 1) := by decide +kernel
theorem dL_law_442 : decode cL_law 442 = .ok (.aload_n 0, 1) := by decide +kernel
theorem dL_law_443 : decode cL_law 443 = .ok (.iload_n 3, 1) := by decide +kernel
theorem dL_law_444 : decode cL_law 444 = .ok (.iconst 1, 1) := by decide +kernel
theorem dL_law_445 : decode cL_law 445 = .ok (.iadd, 1) := by decide +kernel
theorem dL_law_446 : decode cL_law 446 = .ok (.iaload, 1) := by decide +kernel
theorem dL_law_447 : decode cL_law 447 = .ok (.aload_n 0, 1) := by decide +kernel
theorem dL_law_448 : decode cL_law 448 = .ok (.iload_n 3, 1) := by decide +kernel
theorem dL_law_449 : decode cL_law 449 = .ok (.iconst 2, 1) := by decide +kernel
theorem dL_law_450 : decode cL_law 450 = .ok (.iadd, 1) := by decide +kernel
theorem dL_law_451 : decode cL_law 451 = .ok (.iaload, 1) := by decide +kernel
theorem dL_law_452 : decode cL_law 452 = .ok (.invokevirtual 50, 3) := by decide +kernel
theorem dL_law_455 : decode cL_law 455 = .ok (.aload_n 2, 1) := by decide +kernel
theorem dL_law_456 : decode cL_law 456 = .ok (.aload_n 0, 1) := by decide +kernel
theorem dL_law_457 : decode cL_law 457 = .ok (.iload_n 3, 1) := by decide +kernel
theorem dL_law_458 : decode cL_law 458 = .ok (.iconst 1, 1) := by decide +kernel
theorem dL_law_459 : decode cL_law 459 = .ok (.iadd, 1) := by decide +kernel
theorem dL_law_460 : decode cL_law 460 = .ok (.iaload, 1) := by decide +kernel
theorem dL_law_461 : decode cL_law 461 = .ok (.aload_n 0, 1) := by decide +kernel
theorem dL_law_462 : decode cL_law 462 = .ok (.iload_n 3, 1) := by decide +kernel
theorem dL_law_463 : decode cL_law 463 = .ok (.iconst 2, 1) := by decide +kernel
theorem dL_law_464 : decode cL_law 464 = .ok (.iadd, 1) := by decide +kernel
theorem dL_law_465 : decode cL_law 465 = .ok (.iaload, 1) := by decide +kernel
theorem dL_law_466 : decode cL_law 466 = .ok (.invokevirtual 53, 3) := by decide +kernel
theorem dL_law_469 : decode cL_law 469 = .ok (.if_icmp .eq 286, 3) := by decide +kernel
theorem dL_law_472 : decode cL_law 472 = .ok (.iconst 0, 1) := by decide +kernel
theorem dL_law_473 : decode cL_law 473 = .ok (.ireturn, 1) := by decide +kernel
theorem dL_law_474 : decode cL_law 474 = .ok (.aload_n 1, 1) := by decide +kernel
theorem dL_law_475 : decode cL_law 475 = .ok (.aload_n 0, 1) := by decide +kernel
theorem dL_law_476 : decode cL_law 476 = .ok (.iload_n 3, 1) := by decide +kernel
theorem dL_law_477 : decode cL_law 477 = .ok (.iconst 1, 1) := by decide +kernel
theorem dL_law_478 : decode cL_law 478 = .ok (.iadd, 1) := by decide +kernel
theorem dL_law_479 : decode cL_law 479 = .ok (.iaload, 1) := by decide +kernel
theorem dL_law_480 : decode cL_law 480 = .ok (.aload_n 0, 1) := by decide +kernel
theorem dL_law_481 : decode cL_law 481 = .ok (.iload_n 3, 1) := by decide +kernel
theorem dL_law_482 : decode cL_law 482 = .ok (.iconst 2, 1) := by decide +kernel
theorem dL_law_483 : decode cL_law 483 = .ok (.iadd, 1) := by decide +kernel
theorem dL_law_484 : decode cL_law 484 = .ok (.iaload, 1) := by decide +kernel
theorem dL_law_485 : decode cL_law 485 = .ok (.invokevirtual 54, 3) := by decide +kernel
theorem dL_law_488 : decode cL_law 488 = .ok (.aload_n 2, 1) := by decide +kernel
theorem dL_law_489 : decode cL_law 489 = .ok (.aload_n 0, 1) := by decide +kernel
theorem dL_law_490 : decode cL_law 490 = .ok (.iload_n 3, 1) := by decide +kernel
theorem dL_law_491 : decode cL_law 491 = .ok (.iconst 1, 1) := by decide +kernel
theorem dL_law_492 : decode cL_law 492 = .ok (.iadd, 1) := by decide +kernel
theorem dL_law_493 : decode cL_law 493 = .ok (.iaload, 1) := by decide +kernel
theorem dL_law_494 : decode cL_law 494 = .ok (.aload_n 0, 1) := by decide +kernel
theorem dL_law_495 : decode cL_law 495 = .ok (.iload_n 3, 1) := by decide +kernel
theorem dL_law_496 : decode cL_law 496 = .ok (.iconst 2, 1) := by decide +kernel
theorem dL_law_497 : decode cL_law 497 = .ok (.iadd, 1) := by decide +kernel
theorem dL_law_498 : decode cL_law 498 = .ok (.iaload, 1) := by decide +kernel
theorem dL_law_499 : decode cL_law 499 = .ok (.invokevirtual 57, 3) := by decide +kernel
theorem dL_law_502 : decode cL_law 502 = .ok (.if_icmp .eq 253, 3) := by decide +kernel
theorem dL_law_505 : decode cL_law 505 = .ok (.iconst 0, 1) := by decide +kernel
theorem dL_law_506 : decode cL_law 506 = .ok (.ireturn, 1) := by decide +kernel
theorem dL_law_507 : decode cL_law 507 = .ok (.aload_n 1, 1) := by decide +kernel
theorem dL_law_508 : decode cL_law 508 = .ok (.aload_n 0, 1) := by decide +kernel
theorem dL_law_509 : decode cL_law 509 = .ok (.iload_n 3, 1) := by decide +kernel
theorem dL_law_510 : decode cL_law 510 = .ok (.iconst 1, 1) := by decide +kernel
theorem dL_law_511 : decode cL_law 511 = .ok (.iadd, 1) := by decide +kernel
theorem dL_law_512 : decode cL_law 512 = .ok (.iaload, 1) := by decide +kernel
theorem dL_law_513 : decode cL_law 513 = .ok (.aload_n 0, 1) := by decide +kernel
theorem dL_law_514 : decode cL_law 514 = .ok (.iload_n 3, 1) := by decide +kernel
theorem dL_law_515 : decode cL_law 515 = .ok (.iconst 2, 1) := by decide +kernel
theorem dL_law_516 : decode cL_law 516 = .ok (.iadd, 1) := by decide +kernel
theorem dL_law_517 : decode cL_law 517 = .ok (.iaload, 1) := by decide +kernel
theorem dL_law_518 : decode cL_law 518 = .ok (.invokevirtual 58, 3) := by decide +kernel
theorem dL_law_521 : decode cL_law 521 = .ok (.aload_n 2, 1) := by decide +kernel
theorem dL_law_522 : decode cL_law 522 = .ok (.aload_n 0, 1) := by decide +kernel
theorem dL_law_523 : decode cL_law 523 = .ok (.iload_n 3, 1) := by decide +kernel
theorem dL_law_524 : decode cL_law 524 = .ok (.iconst 1, 1) := by decide +kernel
theorem dL_law_525 : decode cL_law 525 = .ok (.iadd, 1) := by decide +kernel
theorem dL_law_526 : decode cL_law 526 = .ok (.iaload, 1) := by decide +kernel
theorem dL_law_527 : decode cL_law 527 = .ok (.aload_n 0, 1) := by decide +kernel
theorem dL_law_528 : decode cL_law 528 = .ok (.iload_n 3, 1) := by decide +kernel
theorem dL_law_529 : decode cL_law 529 = .ok (.iconst 2, 1) := by decide +kernel
theorem dL_law_530 : decode cL_law 530 = .ok (.iadd, 1) := by decide +kernel
theorem dL_law_531 : decode cL_law 531 = .ok (.iaload, 1) := by decide +kernel
theorem dL_law_532 : decode cL_law 532 = .ok (.invokevirtual 61, 3) := by decide +kernel
theorem dL_law_535 : decode cL_law 535 = .ok (.if_icmp .eq 220, 3) := by decide +kernel
theorem dL_law_538 : decode cL_law 538 = .ok (.iconst 0, 1) := by decide +kernel
theorem dL_law_539 : decode cL_law 539 = .ok (.ireturn, 1) := by decide +kernel
theorem dL_law_540 : decode cL_law 540 = .ok (.aload_n 1, 1) := by decide +kernel
theorem dL_law_541 : decode cL_law 541 = .ok (.aload_n 0, 1) := by decide +kernel
theorem dL_law_542 : decode cL_law 542 = .ok (.iload_n 3, 1) := by decide +kernel
theorem dL_law_543 : decode cL_law 543 = .ok (.iconst 1, 1) := by decide +kernel
theorem dL_law_544 : decode cL_law 544 = .ok (.iadd, 1) := by decide +kernel
theorem dL_law_545 : decode cL_law 545 = .ok (.iaload, 1) := by decide +kernel
theorem dL_law_546 : decode cL_law 546 = .ok (.invokevirtual 62, 3) := by decide +kernel
theorem dL_law_549 : decode cL_law 549 = .ok (.aload_n 2, 1) := by decide +kernel
theorem dL_law_550 : decode cL_law 550 = .ok (.aload_n 0, 1) := by decide +kernel
theorem dL_law_551 : decode cL_law 551 = .ok (.iload_n 3, 1) := by decide +kernel
theorem dL_law_552 : decode cL_law 552 = .ok (.iconst 1, 1) := by decide +kernel
theorem dL_law_553 : decode cL_law 553 = .ok (.iadd, 1) := by decide +kernel
theorem dL_law_554 : decode cL_law 554 = .ok (.iaload, 1) := by decide +kernel
theorem dL_law_555 : decode cL_law 555 = .ok (.invokevirtual 65, 3) := by decide +kernel
theorem dL_law_558 : decode cL_law 558 = .ok (.if_icmp .eq 197, 3) := by decide +kernel
theorem dL_law_561 : decode cL_law 561 = .ok (.iconst 0, 1) := by decide +kernel
theorem dL_law_562 : decode cL_law 562 = .ok (.ireturn, 1) := by decide +kernel
theorem dL_law_563 : decode cL_law 563 = .ok (.aload_n 1, 1) := by decide +kernel
theorem dL_law_564 : decode cL_law 564 = .ok (.invokevirtual 66, 3) := by decide +kernel
theorem dL_law_567 : decode cL_law 567 = .ok (.aload_n 2, 1) := by decide +kernel
theorem dL_law_568 : decode cL_law 568 = .ok (.invokevirtual 70, 3) := by decide +kernel
theorem dL_law_571 : decode cL_law 571 = .ok (.if_icmp .eq 184, 3) := by decide +kernel
theorem dL_law_574 : decode cL_law 574 = .ok (.iconst 0, 1) := by decide +kernel
theorem dL_law_575 : decode cL_law 575 = .ok (.ireturn, 1) := by decide +kernel
theorem dL_law_576 : decode cL_law 576 = .ok (.aload_n 1, 1) := by decide +kernel
theorem dL_law_577 : decode cL_law 577 = .ok (.aload_n 0, 1) := by decide +kernel
theorem dL_law_578 : decode cL_law 578 = .ok (.iload_n 3, 1) := by decide +kernel
theorem dL_law_579 : decode cL_law 579 = .ok (.iconst 1, 1) := by decide +kernel
theorem dL_law_580 : decode cL_law 580 = .ok (.iadd, 1) := by decide +kernel
theorem dL_law_581 : decode cL_law 581 = .ok (.iaload, 1) := by decide +kernel
theorem dL_law_582 : decode cL_law 582 = .ok (.aload_n 0, 1) := by decide +kernel
theorem dL_law_583 : decode cL_law 583 = .ok (.iload_n 3, 1) := by decide +kernel
theorem dL_law_584 : decode cL_law 584 = .ok (.iconst 2, 1) := by decide +kernel
theorem dL_law_585 : decode cL_law 585 = .ok (.iadd, 1) := by decide +kernel
theorem dL_law_586 : decode cL_law 586 = .ok (.iaload, 1) := by decide +kernel
theorem dL_law_587 : decode cL_law 587 = .ok (.invokevirtual 71, 3) := by decide +kernel
theorem dL_law_590 : decode cL_law 590 = .ok (.aload_n 2, 1) := by decide +kernel
theorem dL_law_591 : decode cL_law 591 = .ok (.aload_n 0, 1) := by decide +kernel
theorem dL_law_592 : decode cL_law 592 = .ok (.iload_n 3, 1) := by decide +kernel
theorem dL_law_593 : decode cL_law 593 = .ok (.iconst 1, 1) := by decide +kernel
theorem dL_law_594 : decode cL_law 594 = .ok (.iadd, 1) := by decide +kernel
theorem dL_law_595 : decode cL_law 595 = .ok (.iaload, 1) := by decide +kernel
theorem dL_law_596 : decode cL_law 596 = .ok (.aload_n 0, 1) := by decide +kernel
theorem dL_law_597 : decode cL_law 597 = .ok (.iload_n 3, 1) := by decide +kernel
theorem dL_law_598 : decode cL_law 598 = .ok (.iconst 2, 1) := by decide +kernel
theorem dL_law_599 : decode cL_law 599 = .ok (.iadd, 1) := by decide +kernel
theorem dL_law_600 : decode cL_law 600 = .ok (.iaload, 1) := by decide +kernel
theorem dL_law_601 : decode cL_law 601 = .ok (.invokevirtual 74, 3) := by decide +kernel
theorem dL_law_604 : decode cL_law 604 = .ok (.lcmp, 1) := by decide +kernel
theorem dL_law_605 : decode cL_law 605 = .ok (.ifCond .eq 150, 3) := by decide +kernel
theorem dL_law_608 : decode cL_law 608 = .ok (.iconst 0, 1) := by decide +kernel
theorem dL_law_609 : decode cL_law 609 = .ok (.ireturn, 1) := by decide +kernel
theorem dL_law_610 : decode cL_law 610 = .ok (.aload_n 1, 1) := by decide +kernel
theorem dL_law_611 : decode cL_law 611 = .ok (.aload_n 0, 1) := by decide +kernel
theorem dL_law_612 : decode cL_law 612 = .ok (.iload_n 3, 1) := by decide +kernel
theorem dL_law_613 : decode cL_law 613 = .ok (.iconst 1, 1) := by decide +kernel
theorem dL_law_614 : decode cL_law 614 = .ok (.iadd, 1) := by decide +kernel
theorem dL_law_615 : decode cL_law 615 = .ok (.iaload, 1) := by decide +kernel
theorem dL_law_616 : decode cL_law 616 = .ok (.invokevirtual 75, 3) := by decide +kernel
theorem dL_law_619 : decode cL_law 619 = .ok (.aload_n 2, 1) := by decide +kernel
theorem dL_law_620 : decode cL_law 620 = .ok (.aload_n 0, 1) := by decide +kernel
theorem dL_law_621 : decode cL_law 621 = .ok (.iload_n 3, 1) := by decide +kernel
theorem dL_law_622 : decode cL_law 622 = .ok (.iconst 1, 1) := by decide +kernel
theorem dL_law_623 : decode cL_law 623 = .ok (.iadd, 1) := by decide +kernel
theorem dL_law_624 : decode cL_law 624 = .ok (.iaload, 1) := by decide +kernel
theorem dL_law_625 : decode cL_law 625 = .ok (.invokevirtual 78, 3) := by decide +kernel
theorem dL_law_628 : decode cL_law 628 = .ok (.if_icmp .eq 127, 3) := by decide +kernel
theorem dL_law_631 : decode cL_law 631 = .ok (.iconst 0, 1) := by decide +kernel
theorem dL_law_632 : decode cL_law 632 = .ok (.ireturn, 1) := by decide +kernel
theorem dL_law_633 : decode cL_law 633 = .ok (.aload_n 1, 1) := by decide +kernel
theorem dL_law_634 : decode cL_law 634 = .ok (.aload_n 0, 1) := by decide +kernel
theorem dL_law_635 : decode cL_law 635 = .ok (.iload_n 3, 1) := by decide +kernel
theorem dL_law_636 : decode cL_law 636 = .ok (.iconst 1, 1) := by decide +kernel
theorem dL_law_637 : decode cL_law 637 = .ok (.iadd, 1) := by decide +kernel
theorem dL_law_638 : decode cL_law 638 = .ok (.iaload, 1) := by decide +kernel
theorem dL_law_639 : decode cL_law 639 = .ok (.invokevirtual 79, 3) := by decide +kernel
theorem dL_law_642 : decode cL_law 642 = .ok (.aload_n 2, 1) := by decide +kernel
theorem dL_law_643 : decode cL_law 643 = .ok (.aload_n 0, 1) := by decide +kernel
theorem dL_law_644 : decode cL_law 644 = .ok (.iload_n 3, 1) := by decide +kernel
theorem dL_law_645 : decode cL_law 645 = .ok (.iconst 1, 1) := by decide +kernel
theorem dL_law_646 : decode cL_law 646 = .ok (.iadd, 1) := by decide +kernel
theorem dL_law_647 : decode cL_law 647 = .ok (.iaload, 1) := by decide +kernel
theorem dL_law_648 : decode cL_law 648 = .ok (.invokevirtual 82, 3) := by decide +kernel
theorem dL_law_651 : decode cL_law 651 = .ok (.if_icmp .eq 104, 3) := by decide +kernel
theorem dL_law_654 : decode cL_law 654 = .ok (.iconst 0, 1) := by decide +kernel
theorem dL_law_655 : decode cL_law 655 = .ok (.ireturn, 1) := by decide +kernel
theorem dL_law_656 : decode cL_law 656 = .ok (.aload_n 1, 1) := by decide +kernel
theorem dL_law_657 : decode cL_law 657 = .ok (.invokevirtual 83, 3) := by decide +kernel
theorem dL_law_660 : decode cL_law 660 = .ok (.aload_n 2, 1) := by decide +kernel
theorem dL_law_661 : decode cL_law 661 = .ok (.invokevirtual 86, 3) := by decide +kernel
theorem dL_law_664 : decode cL_law 664 = .ok (.if_icmp .eq 91, 3) := by decide +kernel
theorem dL_law_667 : decode cL_law 667 = .ok (.iconst 0, 1) := by decide +kernel
theorem dL_law_668 : decode cL_law 668 = .ok (.ireturn, 1) := by decide +kernel
theorem dL_law_669 : decode cL_law 669 = .ok (.aload_n 1, 1) := by decide +kernel
theorem dL_law_670 : decode cL_law 670 = .ok (.invokevirtual 87, 3) := by decide +kernel
theorem dL_law_673 : decode cL_law 673 = .ok (.aload_n 2, 1) := by decide +kernel
theorem dL_law_674 : decode cL_law 674 = .ok (.invokevirtual 90, 3) := by decide +kernel
theorem dL_law_677 : decode cL_law 677 = .ok (.if_icmp .eq 78, 3) := by decide +kernel
theorem dL_law_680 : decode cL_law 680 = .ok (.iconst 0, 1) := by decide +kernel
theorem dL_law_681 : decode cL_law 681 = .ok (.ireturn, 1) := by decide +kernel
theorem dL_law_682 : decode cL_law 682 = .ok (.aload_n 1, 1) := by decide +kernel
theorem dL_law_683 : decode cL_law 683 = .ok (.aload_n 0, 1) := by decide +kernel
theorem dL_law_684 : decode cL_law 684 = .ok (.iload_n 3, 1) := by decide +kernel
theorem dL_law_685 : decode cL_law 685 = .ok (.iconst 1, 1) := by decide +kernel
theorem dL_law_686 : decode cL_law 686 = .ok (.iadd, 1) := by decide +kernel
theorem dL_law_687 : decode cL_law 687 = .ok (.iaload, 1) := by decide +kernel
theorem dL_law_688 : decode cL_law 688 = .ok (.invokevirtual 91, 3) := by decide +kernel
theorem dL_law_691 : decode cL_law 691 = .ok (.aload_n 2, 1) := by decide +kernel
theorem dL_law_692 : decode cL_law 692 = .ok (.aload_n 0, 1) := by decide +kernel
theorem dL_law_693 : decode cL_law 693 = .ok (.iload_n 3, 1) := by decide +kernel
theorem dL_law_694 : decode cL_law 694 = .ok (.iconst 1, 1) := by decide +kernel
theorem dL_law_695 : decode cL_law 695 = .ok (.iadd, 1) := by decide +kernel
theorem dL_law_696 : decode cL_law 696 = .ok (.iaload, 1) := by decide +kernel
theorem dL_law_697 : decode cL_law 697 = .ok (.invokevirtual 94, 3) := by decide +kernel
theorem dL_law_700 : decode cL_law 700 = .ok (.if_icmp .eq 55, 3) := by decide +kernel
theorem dL_law_703 : decode cL_law 703 = .ok (.iconst 0, 1) := by decide +kernel
theorem dL_law_704 : decode cL_law 704 = .ok (.ireturn, 1) := by decide +kernel
theorem dL_law_705 : decode cL_law 705 = .ok (.aload_n 1, 1) := by decide +kernel
theorem dL_law_706 : decode cL_law 706 = .ok (.invokevirtual 95, 3) := by decide +kernel
theorem dL_law_709 : decode cL_law 709 = .ok (.aload_n 2, 1) := by decide +kernel
theorem dL_law_710 : decode cL_law 710 = .ok (.invokevirtual 98, 3) := by decide +kernel
theorem dL_law_713 : decode cL_law 713 = .ok (.if_icmp .eq 42, 3) := by decide +kernel
theorem dL_law_716 : decode cL_law 716 = .ok (.iconst 0, 1) := by decide +kernel
theorem dL_law_717 : decode cL_law 717 = .ok (.ireturn, 1) := by decide +kernel
theorem dL_law_718 : decode cL_law 718 = .ok (.aload_n 1, 1) := by decide +kernel
theorem dL_law_719 : decode cL_law 719 = .ok (.aload_n 0, 1) := by decide +kernel
theorem dL_law_720 : decode cL_law 720 = .ok (.iload_n 3, 1) := by decide +kernel
theorem dL_law_721 : decode cL_law 721 = .ok (.iconst 1, 1) := by decide +kernel
theorem dL_law_722 : decode cL_law 722 = .ok (.iadd, 1) := by decide +kernel
theorem dL_law_723 : decode cL_law 723 = .ok (.iaload, 1) := by decide +kernel
theorem dL_law_724 : decode cL_law 724 = .ok (.invokevirtual 99, 3) := by decide +kernel
theorem dL_law_727 : decode cL_law 727 = .ok (.aload_n 2, 1) := by decide +kernel
theorem dL_law_728 : decode cL_law 728 = .ok (.aload_n 0, 1) := by decide +kernel
theorem dL_law_729 : decode cL_law 729 = .ok (.iload_n 3, 1) := by decide +kernel
theorem dL_law_730 : decode cL_law 730 = .ok (.iconst 1, 1) := by decide +kernel
theorem dL_law_731 : decode cL_law 731 = .ok (.iadd, 1) := by decide +kernel
theorem dL_law_732 : decode cL_law 732 = .ok (.iaload, 1) := by decide +kernel
theorem dL_law_733 : decode cL_law 733 = .ok (.invokevirtual 102, 3) := by decide +kernel
theorem dL_law_736 : decode cL_law 736 = .ok (.if_icmp .eq 19, 3) := by decide +kernel
theorem dL_law_739 : decode cL_law 739 = .ok (.iconst 0, 1) := by decide +kernel
theorem dL_law_740 : decode cL_law 740 = .ok (.ireturn, 1) := by decide +kernel
theorem dL_law_741 : decode cL_law 741 = .ok (.aload_n 1, 1) := by decide +kernel
theorem dL_law_742 : decode cL_law 742 = .ok (.invokevirtual 103, 3) := by decide +kernel
theorem dL_law_745 : decode cL_law 745 = .ok (.aload_n 2, 1) := by decide +kernel
theorem dL_law_746 : decode cL_law 746 = .ok (.invokevirtual 107, 3) := by decide +kernel
theorem dL_law_749 : decode cL_law 749 = .ok (.lcmp, 1) := by decide +kernel
theorem dL_law_750 : decode cL_law 750 = .ok (.ifCond .eq 5, 3) := by decide +kernel
theorem dL_law_753 : decode cL_law 753 = .ok (.iconst 0, 1) := by decide +kernel
theorem dL_law_754 : decode cL_law 754 = .ok (.ireturn, 1) := by decide +kernel
theorem dL_law_755 : decode cL_law 755 = .ok (.iinc 3 5, 3) := by decide +kernel
theorem dL_law_758 : decode cL_law 758 = .ok (.goto (-740), 3) := by decide +kernel
theorem dL_law_761 : decode cL_law 761 = .ok (.iconst 1, 1) := by decide +kernel
theorem dL_law_762 : decode cL_law 762 = .ok (.ireturn, 1) := by decide +kernel
